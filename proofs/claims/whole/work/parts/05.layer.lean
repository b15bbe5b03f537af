/-! ===== Int numbers as Int32 ===== -/
def zI (x : Int) : Int32 := Int32.ofInt x
def zR (x : Int) : Prop := -2147483648 ≤ x ∧ x < 2147483648
theorem zI_toInt {x : Int} (h : zR x) : (zI x).toInt = x := by
  have h1 := h.1
  have h2 := h.2
  unfold zI
  first
  | exact Int32.toInt_ofInt_of_le (by omega) (by omega)
  | (rw [Int32.toInt_ofInt]; exact Int.bmod_eq_of_le (by omega) (by omega))
theorem zI_of (x : Int32) : zI x.toInt = x := by
  unfold zI
  first
  | exact Int32.ofInt_toInt x
  | simp
theorem zR_of (x : Int32) : zR x.toInt := by
  have h1 := Int32.le_toInt x
  have h2 := Int32.toInt_lt x
  constructor <;> omega
theorem zI_add (a b : Int) : zI a + zI b = zI (a + b) := by
  unfold zI
  first
  | exact (Int32.ofInt_add a b).symm
  | simp [Int32.ofInt_add]
theorem zI_sub (a b : Int) : zI a - zI b = zI (a - b) := by
  unfold zI
  first
  | exact (Int32.ofInt_sub a b).symm
  | simp [Int32.ofInt_sub]
theorem zI_mul (a b : Int) : zI a * zI b = zI (a * b) := by
  unfold zI
  first
  | exact (Int32.ofInt_mul a b).symm
  | simp [Int32.ofInt_mul]
theorem zI_lt {a b : Int} (ha : zR a) (hb : zR b) : zI a < zI b ↔ a < b := by
  rw [Int32.lt_iff_toInt_lt, zI_toInt ha, zI_toInt hb]
theorem zI_le {a b : Int} (ha : zR a) (hb : zR b) : zI a ≤ zI b ↔ a ≤ b := by
  rw [Int32.le_iff_toInt_le, zI_toInt ha, zI_toInt hb]
theorem zI_eq {a b : Int} (ha : zR a) (hb : zR b) : zI a = zI b ↔ a = b := by
  constructor
  · intro h
    have := congrArg Int32.toInt h
    rwa [zI_toInt ha, zI_toInt hb] at this
  · intro h; rw [h]
theorem zR0 : zR 0 := by constructor <;> omega
theorem zI_0 : zI 0 = 0 := by decide +kernel
theorem zI_nat (n : Nat) : zI (n : Int) = nI n := by
  unfold zI nI
  first
  | rfl
  | exact Int32.ofInt_eq_ofNat
  | simp
theorem zI_cl {i : Int} (h0 : 0 ≤ i) (h1 : i < 2147483648) : (zI i).toNatClampNeg = i.toNat := by
  obtain ⟨n, rfl⟩ := Int.eq_ofNat_of_zero_le h0
  rw [zI_nat, nI_clamp (by omega)]
  rfl
theorem zI_in {i : Int} {n : Nat} (h0 : 0 ≤ i) (h1 : i < (n : Int)) (hn : n ≤ 2147483647) : vp_in (zI i) n := by
  rw [vp_in_iff, zI_toInt ⟨by omega, by omega⟩]
  exact ⟨h0, h1⟩
/-! arrays of ints by functions of Int -/
def zA (g : Int → Int) : Nat → Int32 := fun k => zI (g (k : Int))
def zU (g : Int → Int) (i v : Int) : Int → Int := fun j => if j = i then v else g j
def zC (f g : Int → Int) (sp dp n : Int) : Int → Int := fun k => if dp ≤ k ∧ k < dp + n then f (sp + (k - dp)) else g k
theorem zU_s (g : Int → Int) (i v : Int) : zU g i v i = v := by simp [zU]
theorem zU_n {g : Int → Int} {i v j : Int} (h : j ≠ i) : zU g i v j = g j := by simp [zU, h]
theorem zC_in {f g : Int → Int} {sp dp n k : Int} (h : dp ≤ k) (h2 : k < dp + n) : zC f g sp dp n k = f (sp + (k - dp)) := by simp [zC, h, h2]
theorem zC_out {f g : Int → Int} {sp dp n k : Int} (h : k < dp ∨ dp + n ≤ k) : zC f g sp dp n k = g k := by
  unfold zC
  rw [if_neg (by omega)]
theorem zA_at {g : Int → Int} {i : Int} (h0 : 0 ≤ i) (h1 : i < 2147483648) : zA g (zI i).toNatClampNeg = zI (g i) := by
  rw [zI_cl h0 h1]
  show zI (g ((i.toNat : Nat) : Int)) = _
  rw [Int.toNat_of_nonneg h0]
theorem zA_upd {g : Int → Int} {i v : Int} (h0 : 0 ≤ i) (h1 : i < 2147483648) : upd (zA g) (zI i).toNatClampNeg (zI v) = zA (zU g i v) := by
  rw [zI_cl h0 h1]
  funext j
  unfold upd zA zU
  by_cases h : j = i.toNat
  · subst h
    simp [Int.toNat_of_nonneg h0]
  · have : ¬ ((j : Int) = i) := by omega
    simp [h, this]
theorem zA_cpy {f g : Int → Int} {sp dp n : Int} (h0 : 0 ≤ sp) (h1 : 0 ≤ dp) (h2 : 0 ≤ n) (k0 : sp < 2147483648) (k1 : dp < 2147483648) (k2 : n < 2147483648) : va_cpy (zA f) (zA g) (zI sp).toNatClampNeg (zI dp).toNatClampNeg (zI n).toNatClampNeg = zA (zC f g sp dp n) := by
  rw [zI_cl h0 k0, zI_cl h1 k1, zI_cl h2 k2]
  funext j
  unfold va_cpy zA zC
  by_cases h : dp.toNat ≤ j ∧ j < dp.toNat + n.toNat
  · have h3 : dp ≤ (j : Int) ∧ (j : Int) < dp + n := by omega
    rw [if_pos h, if_pos h3]
    congr 2
    omega
  · have h3 : ¬ (dp ≤ (j : Int) ∧ (j : Int) < dp + n) := by omega
    rw [if_neg h, if_neg h3]
/-! cells -/
abbrev cI (cA : ClassId) (a n : Nat) (g : Int → Int) : Nat × va_E := (a, .inl (cA, n, .inl (zA g)))
abbrev cO (a ci : Nat) (fs : List Value) : Nat × va_E := (a, .inr (ci, fs))
abbrev cQ (cB : ClassId) (a n : Nat) (f : Nat → Option Nat) : Nat × va_E := (a, .inl (cB, n, .inr (.inr (.inr (.inr f)))))
/-! ===== the walk, by cells, locals and stack alone ===== -/
/-- private members that another class of the nest calls -/
def zNest : List (String × Nat × MethodName) := [(RX5, 28, yX2_init), (RX2, 17, yX3_init), (RX5, 35, yX1_init), (RX4, 49, yX5_isRow), (RX4, 53, yX5_isColumn), (RX4, 56, yX5_placeOf), (RX1, 30, yX5_placeOf), (RX3, 41, yX5_isRow), (RX3, 50, yX5_isColumn), (RX3, 69, yX5_isPlane), (RX2, 26, yX5_isDot)]
def zN (U : State) : Prop := ∀ q ∈ zNest, va_Nw (.methodLinkNest q.1 q.2.1 q.2.2 "StripDepths") U
theorem zN_same {u U : State} (h : u.vm = U.vm) (hN : zN u) : zN U := fun q hq => va_Nw.same rfl h (hN q hq)
theorem zN_warm {s U : State} (hW : s.WarmedH U.vm) (hN : zN s) : zN U := fun q hq => va_Nw.warmM hW (hN q hq)
/-- the static rows of numbers, as a JVM has them at the start -/
def zSt : List (String × List Int) := [("LEAST_VALUES", [6, 2, 0, 0, 20, 10]), ("GREATEST_VALUES", [16, 8, 3, 1, 99, 400]), ("FIRST_VALUES", [8, 4, 1, 0, 60, 120])]
def zSv (q : List Int) : Nat → Int32 := fun j => zI (q.getD j 0)
def zS (A : Nat → Prop) (U : State) (H : Heap) : Prop := va_Nw (.fieldLinkNest RX4 37 RX5 "FIRST_VALUES" "[I" "StripDepths") U ∧ ∀ q ∈ zSt, ∃ a : Nat, va_Z RX5 q.1 "[I" (.ref a) A U H ∧ va_X a 6 (zSv q.2) U H ∧ a < H.size ∧ ¬ A a
theorem zS.same {A : Nat → Prop} {u U : State} {H : Heap} (h : u.vm = U.vm) (hZ : zS A u H) : zS A U H := ⟨va_Nw.same rfl h hZ.1, fun q hq => by
  obtain ⟨a, h1, h2, h3, h4⟩ := hZ.2 q hq
  have hv : u.vm.Alike U.vm := by rw [h]; exact Vm.Alike.refl U.vm
  exact ⟨a, va_Z.moved hv h1, va_X.moved hv h2, h3, h4⟩⟩
theorem zS.warm {A : Nat → Prop} {s U : State} {H : Heap} (hW : s.WarmedH U.vm) (hZ : zS A s H) : zS A U H := ⟨va_Nw.warmF hW hZ.1, fun q hq => by
  obtain ⟨a, h1, h2, h3, h4⟩ := hZ.2 q hq
  exact ⟨a, va_Z.moved hW.alike h1, va_X.moved hW.alike h2, h3, h4⟩⟩
theorem zS.kept {A B : Nat → Prop} {U : State} {H H1 : Heap} (hZ : zS A U H) (hq : ∀ a : Nat, a < H.size → ¬ A a → H1[a]? = H[a]?) (hs : H.size ≤ H1.size) (hAB : ∀ q, B q → A q) : zS B U H1 := ⟨hZ.1, fun q hm => by
  obtain ⟨a, h1, h2, h3, h4⟩ := hZ.2 q hm
  exact ⟨a, va_Z.narrow (va_Z.kept h1 hq) hAB, va_X.kept h2 (hq a h3 h4), Nat.lt_of_lt_of_le h3 hs, fun z => h4 (hAB a z)⟩⟩
abbrev KT : Type := Nat → Nat → va_W → List (Nat × Value) → Nat → List Value → Prop
def Yf (p : Program) (l : Launch) (e : Env) (R : Room) (s : State) (m : MethodId) (args : Array Value) (below : List Frame) (meth : Method) (c : Code) (A : Nat → Prop) (nL : Nat) (D : va_G) (Q : State → Prop) : KT := fun k n ws lv pc st =>
  ∀ (H : Heap) (locs : List Loc) (ls : Array Slot), va_P D vwCl ws H → va_D A ws → va_S A s.heap H locs → lv_has ls nL lv → W p l e R s m args below meth c H locs k n Q (F0 m pc ls st)
def YC (l : Launch) (K : KT) (own : String) (cc : ByteArray) (nL : Nat) (R : Room) (D : va_G) (tys : List (ClassId × FieldType)) : Prop :=
  ∃ (p : Program) (e : Env) (s : State) (m : MethodId) (args : Array Value) (below : List Frame) (meth : Method) (c : Code) (A : Nat → Prop) (Q : State → Prop),
    K = Yf p l e R s m args below meth c A nL D Q ∧ p.tables.exec = Jvm.exec ∧ c.code = cc ∧ c.maxLocals = nL ∧ s.vm.findClass own = some m.cls ∧ (∀ w ∈ wsL_law, w.before args s = true) ∧ va_K D vwCl tys s ∧ (∀ q, s.heap.size ≤ q → A q) ∧ zN s ∧ zS A s s.heap
section YR
variable {l : Launch} {K : KT} {own : String} {cc : ByteArray} {nL : Nat} {R : Room} {D : va_G} {tys : List (ClassId × FieldType)} {k n : Nat} {ws : va_W} {lv : List (Nat × Value)} {pc : Nat} {st : List Value}
theorem y_iload_n (C : YC l K own cc nL R D tys) {kk : Fin 4} {x : Int32} (j : Nat) (hd : decode cc pc = .ok (.iload_n kk, 1)) (hl : lv[j]? = some ((kk : Nat), .int x)) (g : K k n ws lv (pc + 1) (.int x :: st)) : K k n ws lv pc st := by
  obtain ⟨p, e, s, m, args, below, meth, c, A, Q, rfl, hx, hb, hml, hown, hts, hK, hA, hNs⟩ := C
  intro H locs ls hP hD hS h
  exact lv_iload_n hx hb hd rfl (lv_at h j hl) (g H locs ls hP hD hS h)
theorem y_iload (C : YC l K own cc nL R D tys) {i : Nat} {x : Int32} (j : Nat) (hd : decode cc pc = .ok (.iload i, 2)) (hl : lv[j]? = some (i, .int x)) (g : K k n ws lv (pc + 2) (.int x :: st)) : K k n ws lv pc st := by
  obtain ⟨p, e, s, m, args, below, meth, c, A, Q, rfl, hx, hb, hml, hown, hts, hK, hA, hNs⟩ := C
  intro H locs ls hP hD hS h
  exact lv_iload hx hb hd (lv_at h j hl) (g H locs ls hP hD hS h)
theorem y_aload_n (C : YC l K own cc nL R D tys) {kk : Fin 4} {x : Nat} (j : Nat) (hd : decode cc pc = .ok (.aload_n kk, 1)) (hl : lv[j]? = some ((kk : Nat), .ref x)) (g : K k n ws lv (pc + 1) (.ref x :: st)) : K k n ws lv pc st := by
  obtain ⟨p, e, s, m, args, below, meth, c, A, Q, rfl, hx, hb, hml, hown, hts, hK, hA, hNs⟩ := C
  intro H locs ls hP hD hS h
  exact lv_aload_n hx hb hd rfl (lv_at h j hl) (g H locs ls hP hD hS h)
theorem y_aload (C : YC l K own cc nL R D tys) {i : Nat} {x : Nat} (j : Nat) (hd : decode cc pc = .ok (.aload i, 2)) (hl : lv[j]? = some (i, .ref x)) (g : K k n ws lv (pc + 2) (.ref x :: st)) : K k n ws lv pc st := by
  obtain ⟨p, e, s, m, args, below, meth, c, A, Q, rfl, hx, hb, hml, hown, hts, hK, hA, hNs⟩ := C
  intro H locs ls hP hD hS h
  exact lv_aload hx hb hd (lv_at h j hl) (g H locs ls hP hD hS h)
theorem y_istore_n (C : YC l K own cc nL R D tys) {kk : Fin 4} {x : Int32} (lv' : List (Nat × Value)) (hd : decode cc pc = .ok (.istore_n kk, 1)) (hn : (kk : Nat) < nL) (hl : ((kk : Nat), Value.int x) :: lv.filter (fun q => !(q.1 == (kk : Nat)) && !(q.1 + 1 == (kk : Nat) && q.2.category == 2)) = lv') (g : K k n ws lv' (pc + 1) st) : K k n ws lv pc (.int x :: st) := by
  obtain ⟨p, e, s, m, args, below, meth, c, A, Q, rfl, hx, hb, hml, hown, hts, hK, hA, hNs⟩ := C
  intro H locs ls hP hD hS h
  exact lv_istore_n hx hb hd rfl h hn hl (fun ls' h' => g H locs ls' hP hD hS h')
theorem y_istore (C : YC l K own cc nL R D tys) {i : Nat} {x : Int32} (lv' : List (Nat × Value)) (hd : decode cc pc = .ok (.istore i, 2)) (hn : i < nL) (hl : (i, Value.int x) :: lv.filter (fun q => !(q.1 == i) && !(q.1 + 1 == i && q.2.category == 2)) = lv') (g : K k n ws lv' (pc + 2) st) : K k n ws lv pc (.int x :: st) := by
  obtain ⟨p, e, s, m, args, below, meth, c, A, Q, rfl, hx, hb, hml, hown, hts, hK, hA, hNs⟩ := C
  intro H locs ls hP hD hS h
  exact lv_istore hx hb hd h hn hl (fun ls' h' => g H locs ls' hP hD hS h')
theorem y_astore_n (C : YC l K own cc nL R D tys) {kk : Fin 4} {x : Nat} (lv' : List (Nat × Value)) (hd : decode cc pc = .ok (.astore_n kk, 1)) (hn : (kk : Nat) < nL) (hl : ((kk : Nat), Value.ref x) :: lv.filter (fun q => !(q.1 == (kk : Nat)) && !(q.1 + 1 == (kk : Nat) && q.2.category == 2)) = lv') (g : K k n ws lv' (pc + 1) st) : K k n ws lv pc (.ref x :: st) := by
  obtain ⟨p, e, s, m, args, below, meth, c, A, Q, rfl, hx, hb, hml, hown, hts, hK, hA, hNs⟩ := C
  intro H locs ls hP hD hS h
  exact lv_astore_n hx hb hd rfl h hn hl (fun ls' h' => g H locs ls' hP hD hS h')
theorem y_astore (C : YC l K own cc nL R D tys) {i : Nat} {x : Nat} (lv' : List (Nat × Value)) (hd : decode cc pc = .ok (.astore i, 2)) (hn : i < nL) (hl : (i, Value.ref x) :: lv.filter (fun q => !(q.1 == i) && !(q.1 + 1 == i && q.2.category == 2)) = lv') (g : K k n ws lv' (pc + 2) st) : K k n ws lv pc (.ref x :: st) := by
  obtain ⟨p, e, s, m, args, below, meth, c, A, Q, rfl, hx, hb, hml, hown, hts, hK, hA, hNs⟩ := C
  intro H locs ls hP hD hS h
  exact lv_astore hx hb hd h hn hl (fun ls' h' => g H locs ls' hP hD hS h')
theorem y_iinc (C : YC l K own cc nL R D tys) {i : Nat} {x q : Int} (j : Nat) (lv' : List (Nat × Value)) (hd : decode cc pc = .ok (.iinc i q, 3)) (hk : lv[j]? = some (i, .int (zI x))) (hn : i < nL) (hl : (i, Value.int (zI (x + q))) :: lv.filter (fun q => !(q.1 == i) && !(q.1 + 1 == i && q.2.category == 2)) = lv') (g : K k n ws lv' (pc + 3) st) : K k n ws lv pc st := by
  obtain ⟨p, e, s, m, args, below, meth, c, A, Q, rfl, hx, hb, hml, hown, hts, hK, hA, hNs⟩ := C
  intro H locs ls hP hD hS h
  exact lv_iinc hx hb hd h hk (zI_add x q) hn hl (fun ls' h' => g H locs ls' hP hD hS h')
theorem y_iconst (C : YC l K own cc nL R D tys) {q : Int} (hd : decode cc pc = .ok (.iconst q, 1)) (g : K k n ws lv (pc + 1) (.int (zI q) :: st)) : K k n ws lv pc st := by
  obtain ⟨p, e, s, m, args, below, meth, c, A, Q, rfl, hx, hb, hml, hown, hts, hK, hA, hNs⟩ := C
  intro H locs ls hP hD hS h
  exact lv_iconst hx hb hd rfl (g H locs ls hP hD hS h)
theorem y_bipush (C : YC l K own cc nL R D tys) {q : Int} (hd : decode cc pc = .ok (.bipush q, 2)) (hq : (Int8.ofInt q).toInt32 = zI q) (g : K k n ws lv (pc + 2) (.int (zI q) :: st)) : K k n ws lv pc st := by
  obtain ⟨p, e, s, m, args, below, meth, c, A, Q, rfl, hx, hb, hml, hown, hts, hK, hA, hNs⟩ := C
  intro H locs ls hP hD hS h
  exact lv_bipush hx hb hd hq (g H locs ls hP hD hS h)
theorem y_sipush (C : YC l K own cc nL R D tys) {q : Int} (hd : decode cc pc = .ok (.sipush q, 3)) (hq : (Int16.ofInt q).toInt32 = zI q) (g : K k n ws lv (pc + 3) (.int (zI q) :: st)) : K k n ws lv pc st := by
  obtain ⟨p, e, s, m, args, below, meth, c, A, Q, rfl, hx, hb, hml, hown, hts, hK, hA, hNs⟩ := C
  intro H locs ls hP hD hS h
  exact lv_sipush hx hb hd hq (g H locs ls hP hD hS h)
theorem y_iadd (C : YC l K own cc nL R D tys) {a b : Int} (hd : decode cc pc = .ok (.iadd, 1)) (g : K k n ws lv (pc + 1) (.int (zI (a + b)) :: st)) : K k n ws lv pc (.int (zI b) :: .int (zI a) :: st) := by
  obtain ⟨p, e, s, m, args, below, meth, c, A, Q, rfl, hx, hb, hml, hown, hts, hK, hA, hNs⟩ := C
  intro H locs ls hP hD hS h
  exact lv_iadd hx hb hd (by rw [zI_add]; exact g H locs ls hP hD hS h)
theorem y_isub (C : YC l K own cc nL R D tys) {a b : Int} (hd : decode cc pc = .ok (.isub, 1)) (g : K k n ws lv (pc + 1) (.int (zI (a - b)) :: st)) : K k n ws lv pc (.int (zI b) :: .int (zI a) :: st) := by
  obtain ⟨p, e, s, m, args, below, meth, c, A, Q, rfl, hx, hb, hml, hown, hts, hK, hA, hNs⟩ := C
  intro H locs ls hP hD hS h
  exact lv_isub hx hb hd (by rw [zI_sub]; exact g H locs ls hP hD hS h)
theorem y_imul (C : YC l K own cc nL R D tys) {a b : Int} (hd : decode cc pc = .ok (.imul, 1)) (g : K k n ws lv (pc + 1) (.int (zI (a * b)) :: st)) : K k n ws lv pc (.int (zI b) :: .int (zI a) :: st) := by
  obtain ⟨p, e, s, m, args, below, meth, c, A, Q, rfl, hx, hb, hml, hown, hts, hK, hA, hNs⟩ := C
  intro H locs ls hP hD hS h
  exact lv_imul hx hb hd (by rw [zI_mul]; exact g H locs ls hP hD hS h)
theorem zI_rem {a b : Int} (ha : 0 ≤ a) (ha2 : a < 2147483648) (hb : 0 < b) (hb2 : b < 2147483648) : zI a - zI a / zI b * zI b = zI (a % b) := by
  obtain ⟨x, rfl⟩ := Int.eq_ofNat_of_zero_le ha
  obtain ⟨y, rfl⟩ := Int.eq_ofNat_of_zero_le (Int.le_of_lt hb)
  rw [zI_nat, zI_nat, pk_rem (by omega) (by omega) (by omega), ← zI_nat]
  rfl
theorem y_irem (C : YC l K own cc nL R D tys) {a b : Int} (hd : decode cc pc = .ok (.irem, 1)) (h : 0 ≤ a ∧ a < 2147483648 ∧ 0 < b ∧ b < 2147483648) (g : K k n ws lv (pc + 1) (.int (zI (a % b)) :: st)) : K k n ws lv pc (.int (zI b) :: .int (zI a) :: st) := by
  obtain ⟨p, e, s, m, args, below, meth, c, A, Q, rfl, hx, hb, hml, hown, hts, hK, hA, hNs⟩ := C
  obtain ⟨h1, h2, h3, h4⟩ := h
  intro H locs ls hP hD hS hl
  refine lv_irem hx hb hd ?_ (by rw [zI_rem h1 h2 h3 h4]; exact g H locs ls hP hD hS hl)
  intro q
  have := (zI_eq (a := b) (b := 0) ⟨by omega, by omega⟩ zR0).mp (by rw [q, zI_0])
  omega
theorem y_ineg (C : YC l K own cc nL R D tys) {a : Int} (hd : decode cc pc = .ok (.ineg, 1)) (g : K k n ws lv (pc + 1) (.int (zI (-a)) :: st)) : K k n ws lv pc (.int (zI a) :: st) := by
  obtain ⟨p, e, s, m, args, below, meth, c, A, Q, rfl, hx, hb, hml, hown, hts, hK, hA, hNs⟩ := C
  intro H locs ls hP hD hS h
  refine lv_ineg hx hb hd ?_
  have e1 : -(zI a) = zI (-a) := by
    have h1 := zI_sub 0 a
    rw [zI_0] at h1
    rw [show (-a) = 0 - a by omega, ← h1]
    simp
  rw [e1]
  exact g H locs ls hP hD hS h
theorem y_dup (C : YC l K own cc nL R D tys) {v : Value} (hd : decode cc pc = .ok (.dup, 1)) (hv : v.category = 1) (g : K k n ws lv (pc + 1) (v :: v :: st)) : K k n ws lv pc (v :: st) := by
  obtain ⟨p, e, s, m, args, below, meth, c, A, Q, rfl, hx, hb, hml, hown, hts, hK, hA, hNs⟩ := C
  intro H locs ls hP hD hS h
  exact lv_dup hx hb hd hv (g H locs ls hP hD hS h)
theorem y_dup2 (C : YC l K own cc nL R D tys) {v w : Value} (hd : decode cc pc = .ok (.dup2, 1)) (hv : v.category = 1) (hw : w.category = 1) (g : K k n ws lv (pc + 1) (v :: w :: v :: w :: st)) : K k n ws lv pc (v :: w :: st) := by
  obtain ⟨p, e, s, m, args, below, meth, c, A, Q, rfl, hx, hb, hml, hown, hts, hK, hA, hNs⟩ := C
  intro H locs ls hP hD hS h
  exact lv_dup2_11 hx hb hd hv hw (g H locs ls hP hD hS h)
theorem y_pop (C : YC l K own cc nL R D tys) {v : Value} (hd : decode cc pc = .ok (.pop, 1)) (hv : v.category = 1) (g : K k n ws lv (pc + 1) st) : K k n ws lv pc (v :: st) := by
  obtain ⟨p, e, s, m, args, below, meth, c, A, Q, rfl, hx, hb, hml, hown, hts, hK, hA, hNs⟩ := C
  intro H locs ls hP hD hS h
  exact lv_pop hx hb hd hv (g H locs ls hP hD hS h)
theorem y_goto (C : YC l K own cc nL R D tys) {off : Int} (tgt : Nat) (hd : decode cc pc = .ok (.goto off, 3)) (ht : (pc : Int) + off = (tgt : Int)) (g : K k n ws lv tgt st) : K k n ws lv pc st := by
  obtain ⟨p, e, s, m, args, below, meth, c, A, Q, rfl, hx, hb, hml, hown, hts, hK, hA, hNs⟩ := C
  intro H locs ls hP hD hS h
  exact lv_goto hx hb hd ht (g H locs ls hP hD hS h)
theorem y_icmp_eq (C : YC l K own cc nL R D tys) {a b : Int} {off : Int} (tgt : Nat) (hd : decode cc pc = .ok (.if_icmp .eq off, 3)) (ht : (pc : Int) + off = (tgt : Int)) (hr : zR a ∧ zR b) (g1 : a = b → K k n ws lv tgt st) (g2 : ¬ a = b → K k n ws lv (pc + 3) st) : K k n ws lv pc (.int (zI b) :: .int (zI a) :: st) := by
  obtain ⟨p, e, s, m, args, below, meth, c, A, Q, rfl, hx, hb, hml, hown, hts, hK, hA, hNs⟩ := C
  intro H locs ls hP hD hS h
  exact lv_icmp_eq hx hb hd ht (fun q => g1 ((zI_eq hr.1 hr.2).mp q) H locs ls hP hD hS h) (fun q => g2 (fun z => q ((zI_eq hr.1 hr.2).mpr z)) H locs ls hP hD hS h)
theorem y_icmp_ne (C : YC l K own cc nL R D tys) {a b : Int} {off : Int} (tgt : Nat) (hd : decode cc pc = .ok (.if_icmp .ne off, 3)) (ht : (pc : Int) + off = (tgt : Int)) (hr : zR a ∧ zR b) (g1 : ¬ a = b → K k n ws lv tgt st) (g2 : a = b → K k n ws lv (pc + 3) st) : K k n ws lv pc (.int (zI b) :: .int (zI a) :: st) := by
  obtain ⟨p, e, s, m, args, below, meth, c, A, Q, rfl, hx, hb, hml, hown, hts, hK, hA, hNs⟩ := C
  intro H locs ls hP hD hS h
  exact lv_icmp_ne hx hb hd ht (fun q => g1 (fun z => q ((zI_eq hr.1 hr.2).mpr z)) H locs ls hP hD hS h) (fun q => g2 ((zI_eq hr.1 hr.2).mp q) H locs ls hP hD hS h)
theorem y_icmp_lt (C : YC l K own cc nL R D tys) {a b : Int} {off : Int} (tgt : Nat) (hd : decode cc pc = .ok (.if_icmp .lt off, 3)) (ht : (pc : Int) + off = (tgt : Int)) (hr : zR a ∧ zR b) (g1 : a < b → K k n ws lv tgt st) (g2 : b ≤ a → K k n ws lv (pc + 3) st) : K k n ws lv pc (.int (zI b) :: .int (zI a) :: st) := by
  obtain ⟨p, e, s, m, args, below, meth, c, A, Q, rfl, hx, hb, hml, hown, hts, hK, hA, hNs⟩ := C
  intro H locs ls hP hD hS h
  exact lv_icmp_lt hx hb hd ht (fun q => g1 ((zI_lt hr.1 hr.2).mp q) H locs ls hP hD hS h) (fun q => g2 (Int.not_lt.mp (fun z => q ((zI_lt hr.1 hr.2).mpr z))) H locs ls hP hD hS h)
theorem y_icmp_ge (C : YC l K own cc nL R D tys) {a b : Int} {off : Int} (tgt : Nat) (hd : decode cc pc = .ok (.if_icmp .ge off, 3)) (ht : (pc : Int) + off = (tgt : Int)) (hr : zR a ∧ zR b) (g1 : b ≤ a → K k n ws lv tgt st) (g2 : a < b → K k n ws lv (pc + 3) st) : K k n ws lv pc (.int (zI b) :: .int (zI a) :: st) := by
  obtain ⟨p, e, s, m, args, below, meth, c, A, Q, rfl, hx, hb, hml, hown, hts, hK, hA, hNs⟩ := C
  intro H locs ls hP hD hS h
  exact lv_icmp_ge hx hb hd ht (fun q => g1 ((zI_le hr.2 hr.1).mp q) H locs ls hP hD hS h) (fun q => g2 (Int.not_le.mp (fun z => q ((zI_le hr.2 hr.1).mpr z))) H locs ls hP hD hS h)
theorem y_icmp_gt (C : YC l K own cc nL R D tys) {a b : Int} {off : Int} (tgt : Nat) (hd : decode cc pc = .ok (.if_icmp .gt off, 3)) (ht : (pc : Int) + off = (tgt : Int)) (hr : zR a ∧ zR b) (g1 : b < a → K k n ws lv tgt st) (g2 : a ≤ b → K k n ws lv (pc + 3) st) : K k n ws lv pc (.int (zI b) :: .int (zI a) :: st) := by
  obtain ⟨p, e, s, m, args, below, meth, c, A, Q, rfl, hx, hb, hml, hown, hts, hK, hA, hNs⟩ := C
  intro H locs ls hP hD hS h
  exact lv_icmp_gt hx hb hd ht (fun q => g1 ((zI_lt hr.2 hr.1).mp q) H locs ls hP hD hS h) (fun q => g2 (Int.not_lt.mp (fun z => q ((zI_lt hr.2 hr.1).mpr z))) H locs ls hP hD hS h)
theorem y_icmp_le (C : YC l K own cc nL R D tys) {a b : Int} {off : Int} (tgt : Nat) (hd : decode cc pc = .ok (.if_icmp .le off, 3)) (ht : (pc : Int) + off = (tgt : Int)) (hr : zR a ∧ zR b) (g1 : a ≤ b → K k n ws lv tgt st) (g2 : b < a → K k n ws lv (pc + 3) st) : K k n ws lv pc (.int (zI b) :: .int (zI a) :: st) := by
  obtain ⟨p, e, s, m, args, below, meth, c, A, Q, rfl, hx, hb, hml, hown, hts, hK, hA, hNs⟩ := C
  intro H locs ls hP hD hS h
  exact lv_icmp_le hx hb hd ht (fun q => g1 ((zI_le hr.1 hr.2).mp q) H locs ls hP hD hS h) (fun q => g2 (Int.not_le.mp (fun z => q ((zI_le hr.1 hr.2).mpr z))) H locs ls hP hD hS h)
theorem y_if_eq (C : YC l K own cc nL R D tys) {a : Int} {off : Int} (tgt : Nat) (hd : decode cc pc = .ok (.ifCond .eq off, 3)) (ht : (pc : Int) + off = (tgt : Int)) (hr : zR a) (g1 : a = 0 → K k n ws lv tgt st) (g2 : ¬ a = 0 → K k n ws lv (pc + 3) st) : K k n ws lv pc (.int (zI a) :: st) := by
  obtain ⟨p, e, s, m, args, below, meth, c, A, Q, rfl, hx, hb, hml, hown, hts, hK, hA, hNs⟩ := C
  intro H locs ls hP hD hS h
  refine lv_if_eq hx hb hd ht ?_ ?_
  · rw [← zI_0]
    exact (fun q => g1 ((zI_eq hr zR0).mp q) H locs ls hP hD hS h)
  · rw [← zI_0]
    exact (fun q => g2 (id (fun z => q ((zI_eq hr zR0).mpr z))) H locs ls hP hD hS h)
theorem y_if_ne (C : YC l K own cc nL R D tys) {a : Int} {off : Int} (tgt : Nat) (hd : decode cc pc = .ok (.ifCond .ne off, 3)) (ht : (pc : Int) + off = (tgt : Int)) (hr : zR a) (g1 : ¬ a = 0 → K k n ws lv tgt st) (g2 : a = 0 → K k n ws lv (pc + 3) st) : K k n ws lv pc (.int (zI a) :: st) := by
  obtain ⟨p, e, s, m, args, below, meth, c, A, Q, rfl, hx, hb, hml, hown, hts, hK, hA, hNs⟩ := C
  intro H locs ls hP hD hS h
  refine lv_if_ne hx hb hd ht ?_ ?_
  · rw [← zI_0]
    exact (fun q => g1 (fun z => q ((zI_eq hr zR0).mpr z)) H locs ls hP hD hS h)
  · rw [← zI_0]
    exact (fun q => g2 ((zI_eq hr zR0).mp q) H locs ls hP hD hS h)
theorem y_if_lt (C : YC l K own cc nL R D tys) {a : Int} {off : Int} (tgt : Nat) (hd : decode cc pc = .ok (.ifCond .lt off, 3)) (ht : (pc : Int) + off = (tgt : Int)) (hr : zR a) (g1 : a < 0 → K k n ws lv tgt st) (g2 : 0 ≤ a → K k n ws lv (pc + 3) st) : K k n ws lv pc (.int (zI a) :: st) := by
  obtain ⟨p, e, s, m, args, below, meth, c, A, Q, rfl, hx, hb, hml, hown, hts, hK, hA, hNs⟩ := C
  intro H locs ls hP hD hS h
  refine lv_if_lt hx hb hd ht ?_ ?_
  · rw [← zI_0]
    exact (fun q => g1 ((zI_lt hr zR0).mp q) H locs ls hP hD hS h)
  · rw [← zI_0]
    exact (fun q => g2 (Int.not_lt.mp (fun z => q ((zI_lt hr zR0).mpr z))) H locs ls hP hD hS h)
theorem y_if_ge (C : YC l K own cc nL R D tys) {a : Int} {off : Int} (tgt : Nat) (hd : decode cc pc = .ok (.ifCond .ge off, 3)) (ht : (pc : Int) + off = (tgt : Int)) (hr : zR a) (g1 : 0 ≤ a → K k n ws lv tgt st) (g2 : a < 0 → K k n ws lv (pc + 3) st) : K k n ws lv pc (.int (zI a) :: st) := by
  obtain ⟨p, e, s, m, args, below, meth, c, A, Q, rfl, hx, hb, hml, hown, hts, hK, hA, hNs⟩ := C
  intro H locs ls hP hD hS h
  refine lv_if_ge hx hb hd ht ?_ ?_
  · rw [← zI_0]
    exact (fun q => g1 ((zI_le zR0 hr).mp q) H locs ls hP hD hS h)
  · rw [← zI_0]
    exact (fun q => g2 (Int.not_le.mp (fun z => q ((zI_le zR0 hr).mpr z))) H locs ls hP hD hS h)
theorem y_if_gt (C : YC l K own cc nL R D tys) {a : Int} {off : Int} (tgt : Nat) (hd : decode cc pc = .ok (.ifCond .gt off, 3)) (ht : (pc : Int) + off = (tgt : Int)) (hr : zR a) (g1 : 0 < a → K k n ws lv tgt st) (g2 : a ≤ 0 → K k n ws lv (pc + 3) st) : K k n ws lv pc (.int (zI a) :: st) := by
  obtain ⟨p, e, s, m, args, below, meth, c, A, Q, rfl, hx, hb, hml, hown, hts, hK, hA, hNs⟩ := C
  intro H locs ls hP hD hS h
  refine lv_if_gt hx hb hd ht ?_ ?_
  · rw [← zI_0]
    exact (fun q => g1 ((zI_lt zR0 hr).mp q) H locs ls hP hD hS h)
  · rw [← zI_0]
    exact (fun q => g2 (Int.not_lt.mp (fun z => q ((zI_lt zR0 hr).mpr z))) H locs ls hP hD hS h)
theorem y_if_le (C : YC l K own cc nL R D tys) {a : Int} {off : Int} (tgt : Nat) (hd : decode cc pc = .ok (.ifCond .le off, 3)) (ht : (pc : Int) + off = (tgt : Int)) (hr : zR a) (g1 : a ≤ 0 → K k n ws lv tgt st) (g2 : 0 < a → K k n ws lv (pc + 3) st) : K k n ws lv pc (.int (zI a) :: st) := by
  obtain ⟨p, e, s, m, args, below, meth, c, A, Q, rfl, hx, hb, hml, hown, hts, hK, hA, hNs⟩ := C
  intro H locs ls hP hD hS h
  refine lv_if_le hx hb hd ht ?_ ?_
  · rw [← zI_0]
    exact (fun q => g1 ((zI_le hr zR0).mp q) H locs ls hP hD hS h)
  · rw [← zI_0]
    exact (fun q => g2 (Int.not_le.mp (fun z => q ((zI_le hr zR0).mpr z))) H locs ls hP hD hS h)
theorem y_tin (C : YC l K own cc nL R D tys) {a : Int} {dflt lo hi : Int} {offs : Array Int} {len : Nat} {off : Int} (tgt : Nat) (i : Nat) (hd : decode cc pc = .ok (.tableswitch dflt lo hi offs, len)) (hr : zR a) (h1 : lo ≤ a ∧ a ≤ hi) (hi : (a - lo).toNat = i) (ho : offs[i]? = some off) (ht : (pc : Int) + off = (tgt : Int)) (g : K k n ws lv tgt st) : K k n ws lv pc (.int (zI a) :: st) := by
  obtain ⟨p, e, s, m, args, below, meth, c, A, Q, rfl, hx, hb, hml, hown, hts, hK, hA, hNs⟩ := C
  intro H locs ls hP hD hS h
  have e := zI_toInt hr
  exact lv_tableIn hx hb hd (by rw [e]; omega) (by rw [e]; omega) (by rw [e, hi]; exact ho) ht (g H locs ls hP hD hS h)
theorem y_tout (C : YC l K own cc nL R D tys) {a : Int} {dflt lo hi : Int} {offs : Array Int} {len : Nat} (tgt : Nat) (hd : decode cc pc = .ok (.tableswitch dflt lo hi offs, len)) (hr : zR a) (h1 : a < lo ∨ hi < a) (ht : (pc : Int) + dflt = (tgt : Int)) (g : K k n ws lv tgt st) : K k n ws lv pc (.int (zI a) :: st) := by
  obtain ⟨p, e, s, m, args, below, meth, c, A, Q, rfl, hx, hb, hml, hown, hts, hK, hA, hNs⟩ := C
  intro H locs ls hP hD hS h
  have e := zI_toInt hr
  exact lv_tableOut hx hb hd (by rw [e]; exact h1) ht (g H locs ls hP hD hS h)
theorem y_lookup (C : YC l K own cc nL R D tys) {a : Int} {dflt : Int} {ps : Array (Int × Int)} {len : Nat} {off : Int} (tgt : Nat) (hd : decode cc pc = .ok (.lookupswitch dflt ps, len)) (hr : zR a) (hp : (ps.toList.zip (ps.toList.drop 1)).all (fun (a, next) => a.1 < next.1) = true) (ho : Op.lookupswitch.offset ps.toList dflt a = off) (ht : (pc : Int) + off = (tgt : Int)) (g : K k n ws lv tgt st) : K k n ws lv pc (.int (zI a) :: st) := by
  obtain ⟨p, e, s, m, args, below, meth, c, A, Q, rfl, hx, hb, hml, hown, hts, hK, hA, hNs⟩ := C
  intro H locs ls hP hD hS h
  have e := zI_toInt hr
  exact lv_lookup hx hb hd hp (by rw [e]; exact ho) ht (g H locs ls hP hD hS h)
/-- a field as an instruction of 'own' names it: pool number idx, class number ci, place kf -/
def FKg (own : String) (idx ci kf : Nat) : Prop := ∃ (Cn : String) (T : u_T) (N : Nat), vwCl[ci]? = some (Cn, T, N) ∧ kf < N ∧ Cond.fieldLink own idx (T kf).1 (T kf).2.1 (T kf).2.2.1 ∈ wsL_law ∧ (∀ w ∈ u_ws Cn T N, w ∈ wsL_law)
/-- .. that can be written -/
def FKp (own : String) (idx ci kf : Nat) (ty : FieldType) : Prop := ∃ (Cn : String) (T : u_T) (N : Nat) (ty0 : Nat → FieldType), vwCl[ci]? = some (Cn, T, N) ∧ kf < N ∧ Cond.fieldLink own idx (T kf).1 (T kf).2.1 (T kf).2.2.1 ∈ wsL_law ∧ (∀ w ∈ u_ws Cn T N, w ∈ wsL_law) ∧ (∀ k, k < N → parseFieldDescriptor (T k).2.2.1 = some (ty0 k)) ∧ (∀ a, a < N → ∀ b, b < N → a ≠ b → (T a).2.1 ≠ (T b).2.1) ∧ (T kf).2.2.2 = false ∧ parseFieldDescriptor (T kf).2.2.1 = some ty
theorem y_get (C : YC l K own cc nL R D tys) {idx ci kf a : Nat} {fs : List Value} {v : Value} (F : FKg own idx ci kf) (q0 : Nat) (hd : decode cc pc = .ok (.getfield idx, 3)) (he : ws[q0]? = some (a, .inr (ci, fs))) (hv : fs[kf]? = some v) (g : K k n ws lv (pc + 3) (v :: st)) : K k n ws lv pc (.ref a :: st) := by
  obtain ⟨Cn, T, N, hc, hk, hl, hin⟩ := F
  obtain ⟨p, e, s, m, args, below, meth, c, A, Q, rfl, hx, hb, hml, hown, hts, hK, hA, hNs⟩ := C
  intro H locs ls hP hD hS h
  exact va_get hx hb hts hin hown hK hP q0 he hc kf hk (hts _ hl) (fun _ h => h) hv hd (g H locs ls hP hD hS h)
theorem y_put (C : YC l K own cc nL R D tys) {idx ci kf a : Nat} {fs : List Value} {v : Value} {ty : FieldType} (F : FKp own idx ci kf ty) (q0 : Nat) (ws' : va_W) (hd : decode cc pc = .ok (.putfield idx, 3)) (he : ws[q0]? = some (a, .inr (ci, fs))) (hn : narrow ty v = v) (hf : fits ty v = true) (hl : kf < fs.length) (hw : ws.set q0 (a, .inr (ci, fs.set kf v)) = ws') (g : K k n ws' lv (pc + 3) st) : K k n ws lv pc (v :: .ref a :: st) := by
  subst hw
  obtain ⟨Cn, T, N, ty0, hc, hk, hlk, hin, hty, hnm, hfin, hdsc⟩ := F
  obtain ⟨p, e, s, m, args, below, meth, c, A, Q, rfl, hx, hb, hml, hown, hts, hK, hA, hNs⟩ := C
  intro H locs ls hP hD hS h
  exact va_put hx hb hts hin ty0 hty hnm hown hK hP hD hS q0 he hc kf hk (hts _ hlk) (fun _ h => h) hfin hdsc hn hf hl hd (fun H1 locs1 p1 d1 s1 => g H1 locs1 ls p1 d1 s1 h)
theorem y_iald (C : YC l K own cc nL R D tys) {a N : Nat} {cA : ClassId} {f : Int → Int} {i : Int} (q0 t0 : Nat) (hd : decode cc pc = .ok (.iaload, 1)) (he : ws[q0]? = some (a, .inl (cA, N, .inl (zA f)))) (ht : tys[t0]? = some (cA, .int)) (hi : 0 ≤ i ∧ i < (N : Int) ∧ N ≤ 2147483647) (g : K k n ws lv (pc + 1) (.int (zI (f i)) :: st)) : K k n ws lv pc (.int (zI i) :: .ref a :: st) := by
  obtain ⟨p, e, s, m, args, below, meth, c, A, Q, rfl, hx, hb, hml, hown, hts, hK, hA, hNs⟩ := C
  intro H locs ls hP hD hS h
  obtain ⟨h1, h2, h3⟩ := hi
  refine va_iald hx hb hK hP q0 t0 he ht (zI_in h1 h2 h3) hd ?_
  rw [zA_at h1 (by omega)]
  exact g H locs ls hP hD hS h
theorem y_iast (C : YC l K own cc nL R D tys) {a N : Nat} {cA : ClassId} {f : Int → Int} {i v : Int} (q0 t0 : Nat) (ws' : va_W) (hd : decode cc pc = .ok (.iastore, 1)) (he : ws[q0]? = some (a, .inl (cA, N, .inl (zA f)))) (ht : tys[t0]? = some (cA, .int)) (hi : 0 ≤ i ∧ i < (N : Int) ∧ N ≤ 2147483647) (hw : ws.set q0 (cI cA a N (zU f i v)) = ws') (g : K k n ws' lv (pc + 1) st) : K k n ws lv pc (.int (zI v) :: .int (zI i) :: .ref a :: st) := by
  subst hw
  obtain ⟨p, e, s, m, args, below, meth, c, A, Q, rfl, hx, hb, hml, hown, hts, hK, hA, hNs⟩ := C
  intro H locs ls hP hD hS h
  obtain ⟨h1, h2, h3⟩ := hi
  refine va_iast hx hb hK hP hD hS q0 t0 he ht (zI_in h1 h2 h3) hd ?_
  rw [zA_upd h1 (by omega)]
  exact fun H1 locs1 p1 d1 s1 => g H1 locs1 ls p1 d1 s1 h
theorem y_alen (C : YC l K own cc nL R D tys) {a N : Nat} {cA : ClassId} {x : (Nat → Int32) ⊕ (Nat → Int64) ⊕ (Nat → UInt32) ⊕ (Nat → UInt64) ⊕ (Nat → Option Nat)} {ty : FieldType} (q0 t0 : Nat) (hd : decode cc pc = .ok (.arraylength, 1)) (he : ws[q0]? = some (a, .inl (cA, N, x))) (ht : tys[t0]? = some (cA, ty)) (g : K k n ws lv (pc + 1) (.int (zI (N : Int)) :: st)) : K k n ws lv pc (.ref a :: st) := by
  obtain ⟨p, e, s, m, args, below, meth, c, A, Q, rfl, hx, hb, hml, hown, hts, hK, hA, hNs⟩ := C
  intro H locs ls hP hD hS h
  refine va_alen hx hb hK hP q0 t0 he ht (v := zI (N : Int)) (zI_nat N).symm hd (g H locs ls hP hD hS h)
theorem y_aald (C : YC l K own cc nL R D tys) {a N b : Nat} {cB : ClassId} {Cn : String} {f : Nat → Option Nat} {i : Int} (q0 t0 : Nat) (hd : decode cc pc = .ok (.aaload, 1)) (he : ws[q0]? = some (a, .inl (cB, N, .inr (.inr (.inr (.inr f)))))) (ht : tys[t0]? = some (cB, .object Cn)) (hi : 0 ≤ i ∧ i < (N : Int) ∧ N ≤ 2147483647) (hf : f i.toNat = some b) (g : K k n ws lv (pc + 1) (.ref b :: st)) : K k n ws lv pc (.int (zI i) :: .ref a :: st) := by
  obtain ⟨p, e, s, m, args, below, meth, c, A, Q, rfl, hx, hb, hml, hown, hts, hK, hA, hNs⟩ := C
  intro H locs ls hP hD hS h
  obtain ⟨h1, h2, h3⟩ := hi
  refine va_aldq hx hb hK hP q0 t0 he ht (zI_in h1 h2 h3) hd ?_
  rw [zI_cl h1 (by omega), hf]
  exact g H locs ls hP hD hS h
theorem y_aast (C : YC l K own cc nL R D tys) {a N b ci : Nat} {cB : ClassId} {r : vw_C} {vs : List Value} {f : Nat → Option Nat} {i : Int} (q0 t0 qk : Nat) (ws' : va_W) (hd : decode cc pc = .ok (.aastore, 1)) (he : ws[q0]? = some (a, .inl (cB, N, .inr (.inr (.inr (.inr f)))))) (ht : tys[t0]? = some (cB, .object r.1)) (hv : ws[qk]? = some (b, .inr (ci, vs))) (hc : vwCl[ci]? = some r) (hi : 0 ≤ i ∧ i < (N : Int) ∧ N ≤ 2147483647) (hw : ws.set q0 (cQ cB a N (va_up f i.toNat (some b))) = ws') (g : K k n ws' lv (pc + 1) st) : K k n ws lv pc (.ref b :: .int (zI i) :: .ref a :: st) := by
  subst hw
  obtain ⟨p, e, s, m, args, below, meth, c, A, Q, rfl, hx, hb, hml, hown, hts, hK, hA, hNs⟩ := C
  intro H locs ls hP hD hS h
  obtain ⟨h1, h2, h3⟩ := hi
  refine va_astq hx hb hK hP hD hS q0 t0 qk ci he ht hv hc (zI_in h1 h2 h3) hd ?_
  rw [zI_cl h1 (by omega)]
  exact fun H1 locs1 p1 d1 s1 => g H1 locs1 ls p1 d1 s1 h
def MxW (own : String) (idx : Nat) (y : MethodName) (yc : ByteArray) (nl : Nat) : Prop := Cond.methodLink own idx y ∈ wsL_law ∧ Cond.static y ∈ wsL_law ∧ Cond.initialized "java/lang/Math" ∈ wsL_law ∧ Cond.code y yc nl (some .int) ∈ wsL_law
theorem y_max (C : YC l K own cc nL R D tys) {idx : Nat} {a b : Int} (M : MxW own idx Lib.Math.max.name Lib.Math.max.code 2) (hd : decode cc pc = .ok (.invokestatic idx, 3)) (hr : zR a ∧ zR b) (hR : 1 ≤ R.frames ∧ (st.map fun v => v.category).sum + 13 ≤ R.locals ∧ k ≤ R.cells ∧ n ≤ R.slots) (g : ∀ x, (a ≤ x ∧ b ≤ x ∧ (x = a ∨ x = b)) → K k n ws lv (pc + 3) (.int (zI x) :: st)) : K k n ws lv pc (.int (zI b) :: .int (zI a) :: st) := by
  obtain ⟨p, e, s, m, args, below, meth, c, A, Q, rfl, hx, hb, hml, hown, hts, hK, hA, hNs⟩ := C
  intro H locs ls hP hD hS h
  refine va_mmax hx hb (by rw [hml]; exact h.1.symm) hown (hts _ M.1) (hts _ M.2.1) (hts _ M.2.2.1) (hts _ M.2.2.2) hR.1 hR.2.1 hR.2.2.1 hR.2.2.2 hd ?_
  by_cases q : zI a < zI b
  · rw [if_pos q]
    have := (zI_lt hr.1 hr.2).mp q
    exact g b (by omega) H locs ls hP hD hS h
  · rw [if_neg q]
    have := Int.not_lt.mp (fun z => q ((zI_lt hr.1 hr.2).mpr z))
    exact g a (by omega) H locs ls hP hD hS h
theorem y_min (C : YC l K own cc nL R D tys) {idx : Nat} {a b : Int} (M : MxW own idx Lib.Math.min.name Lib.Math.min.code 2) (hd : decode cc pc = .ok (.invokestatic idx, 3)) (hr : zR a ∧ zR b) (hR : 1 ≤ R.frames ∧ (st.map fun v => v.category).sum + 13 ≤ R.locals ∧ k ≤ R.cells ∧ n ≤ R.slots) (g : ∀ x, (x ≤ a ∧ x ≤ b ∧ (x = a ∨ x = b)) → K k n ws lv (pc + 3) (.int (zI x) :: st)) : K k n ws lv pc (.int (zI b) :: .int (zI a) :: st) := by
  obtain ⟨p, e, s, m, args, below, meth, c, A, Q, rfl, hx, hb, hml, hown, hts, hK, hA, hNs⟩ := C
  intro H locs ls hP hD hS h
  refine va_mmin hx hb (by rw [hml]; exact h.1.symm) hown (hts _ M.1) (hts _ M.2.1) (hts _ M.2.2.1) (hts _ M.2.2.2) hR.1 hR.2.1 hR.2.2.1 hR.2.2.2 hd ?_
  by_cases q : zI b < zI a
  · rw [if_pos q]
    have := (zI_lt hr.2 hr.1).mp q
    exact g b (by omega) H locs ls hP hD hS h
  · rw [if_neg q]
    have := Int.not_lt.mp (fun z => q ((zI_lt hr.2 hr.1).mpr z))
    exact g a (by omega) H locs ls hP hD hS h
theorem y_abs (C : YC l K own cc nL R D tys) {idx : Nat} {a : Int} (M : MxW own idx Lib.Math.abs.name Lib.Math.abs.code 1) (hd : decode cc pc = .ok (.invokestatic idx, 3)) (hr : zR a) (hR : 1 ≤ R.frames ∧ (st.map fun v => v.category).sum + 13 ≤ R.locals ∧ k ≤ R.cells ∧ n ≤ R.slots) (g : ∀ x, ((0 ≤ a ∧ x = a) ∨ (a < 0 ∧ x = -a)) → K k n ws lv (pc + 3) (.int (zI x) :: st)) : K k n ws lv pc (.int (zI a) :: st) := by
  obtain ⟨p, e, s, m, args, below, meth, c, A, Q, rfl, hx, hb, hml, hown, hts, hK, hA, hNs⟩ := C
  intro H locs ls hP hD hS h
  refine va_mabs hx hb (by rw [hml]; exact h.1.symm) hown (hts _ M.1) (hts _ M.2.1) (hts _ M.2.2.1) (hts _ M.2.2.2) hR.1 hR.2.1 hR.2.2.1 hR.2.2.2 hd ?_
  by_cases q : zI 0 ≤ zI a
  · have h0 := (zI_le zR0 hr).mp q
    rw [zI_0] at q
    rw [if_pos q]
    exact g a (by omega) H locs ls hP hD hS h
  · have h0 := Int.not_le.mp (fun z => q ((zI_le zR0 hr).mpr z))
    rw [zI_0] at q
    rw [if_neg q, ← zI_0, zI_sub, show (0 - a : Int) = -a by omega]
    exact g (-a) (by omega) H locs ls hP hD hS h
def CyW (own : String) (idx : Nat) : Prop := Cond.methodLink own idx arraycopyName ∈ wsL_law ∧ Cond.native arraycopyName ∈ wsL_law ∧ Cond.static arraycopyName ∈ wsL_law ∧ Cond.initialized "java/lang/System" ∈ wsL_law
theorem y_copy (C : YC l K own cc nL R D tys) {idx a0 a1 N0 N1 : Nat} {cA : ClassId} {f g0 : Int → Int} {sp dp q : Int} (M : CyW own idx) (q0 q1 t0 : Nat) (ws' : va_W) (hd : decode cc pc = .ok (.invokestatic idx, 3)) (he0 : ws[q0]? = some (a0, .inl (cA, N0, .inl (zA f)))) (he1 : ws[q1]? = some (a1, .inl (cA, N1, .inl (zA g0)))) (ht : tys[t0]? = some (cA, .int)) (hi : 0 ≤ sp ∧ 0 ≤ dp ∧ 0 ≤ q ∧ sp + q ≤ (N0 : Int) ∧ dp + q ≤ (N1 : Int) ∧ N0 ≤ 2147483647 ∧ N1 ≤ 2147483647) (hR : 1 ≤ R.frames ∧ (st.map fun v => v.category).sum + (nativeFrameWords "java/lang/System" "arraycopy" 5 + 11) ≤ R.locals) (hw : ws.set q1 (cI cA a1 N1 (zC f g0 sp dp q)) = ws') (g : K k n ws' lv (pc + 3) st) : K k n ws lv pc (.int (zI q) :: .int (zI dp) :: .ref a1 :: .int (zI sp) :: .ref a0 :: st) := by
  subst hw
  obtain ⟨p, e, s, m, args, below, meth, c, A, Q, rfl, hx, hb, hml, hown, hts, hK, hA, hNs⟩ := C
  intro H locs ls hP hD hS h
  obtain ⟨h1, h2, h3, h4, h5, h6, h7⟩ := hi
  refine va_copyi hx hb (by rw [hml]; exact h.1.symm) hown (hts _ M.1) (hts _ M.2.1) (hts _ M.2.2.1) (hts _ M.2.2.2) hK hP hD hS q0 q1 t0 t0 he0 he1 ht ht rfl (fun z => ?_) (fun z => ?_) (fun z => ?_) ?_ ?_ (fun _ _ => rfl) hR.1 hR.2 hd ?_
  · rw [← zI_0] at z
    have := (zI_lt ⟨by omega, by omega⟩ zR0).mp z
    omega
  · rw [← zI_0] at z
    have := (zI_lt ⟨by omega, by omega⟩ zR0).mp z
    omega
  · rw [← zI_0] at z
    have := (zI_lt ⟨by omega, by omega⟩ zR0).mp z
    omega
  · rw [zI_cl h1 (by omega), zI_cl h3 (by omega)]
    omega
  · rw [zI_cl h2 (by omega), zI_cl h3 (by omega)]
    omega
  · rw [zA_cpy h1 h2 h3 (by omega) (by omega) (by omega)]
    exact fun H1 locs1 p1 d1 s1 => g H1 locs1 ls p1 d1 s1 h
end YR
/-! ===== contracts ===== -/
def zPre (D : va_G) (tys : List (ClassId × FieldType)) (wc : va_W) (sz : Nat) : State → Prop := fun U => U.heap.size = sz ∧ va_P D vwCl wc U.heap ∧ va_K D vwCl tys U ∧ va_D (fun _ => True) wc ∧ zN U ∧ zS (va_A wc sz) U U.heap
def zB (D : va_G) (tys : List (ClassId × FieldType)) (wc : va_W) (sz : Nat) (w : va_W) (t : State) : Prop := va_P D vwCl w t.heap ∧ va_K D vwCl tys t ∧ va_D (va_A wc sz) w
/-- an int (or boolean) method: its end's number and cells keep to post -/
def MI (l : Launch) (y : MethodName) (cc : ByteArray) (nL : Nat) (ret : FieldType) (R : Room) (D : va_G) (tys : List (ClassId × FieldType)) (As : List Value) (wc : va_W) (post : Int → va_W → Prop) : Prop := ∀ sz : Nat, Met l y (.code y cc nL (some ret) :: wsL_law) R (va_Pc As (zPre D tys wc sz)) (va_Qi (fun (r : Int32) (u : Int × va_W) => r = zI u.1 ∧ post u.1 u.2) (fun u t => zB D tys wc sz u.2 t) (va_A wc sz)) R.cells R.slots (va_A wc sz)
/-- a method without an answer -/
def MV (l : Launch) (y : MethodName) (cc : ByteArray) (nL : Nat) (R : Room) (D : va_G) (tys : List (ClassId × FieldType)) (As : List Value) (wc : va_W) (post : va_W → Prop) : Prop := ∀ sz : Nat, Met l y (.code y cc nL none :: wsL_law) R (va_Pc As (zPre D tys wc sz)) (va_Qv (fun (u : va_W) => post u) (fun u t => zB D tys wc sz u t) (va_A wc sz)) R.cells R.slots (va_A wc sz)
/-- a method that answers an object -/
def MR (l : Launch) (y : MethodName) (cc : ByteArray) (nL : Nat) (ret : FieldType) (R : Room) (D : va_G) (tys : List (ClassId × FieldType)) (As : List Value) (wc : va_W) (post : Nat → va_W → Prop) : Prop := ∀ sz : Nat, Met l y (.code y cc nL (some ret) :: wsL_law) R (va_Pc As (zPre D tys wc sz)) (va_Qr (fun (u : Nat × va_W) => post u.1 u.2) (fun u a t => a = u.1 ∧ zB D tys wc sz u.2 t) (va_A wc sz)) R.cells R.slots (va_A wc sz)
theorem zY_entry {l : Launch} {y : MethodName} {cc : ByteArray} {nL : Nat} {ret : Option FieldType} {R : Room} {D : va_G} {tys : List (ClassId × FieldType)} {As : List Value} {wc : va_W} {sz mc ms : Nat} {Qc : Array Value → State → Outcome → State → Prop} (hy : plainName y.cls = true) (hlen : (lg_sl As).length ≤ nL)
    (body : ∀ (K : KT), YC l K y.cls cc nL R D tys →
      (∀ (w : va_W) (lv : List (Nat × Value)) (pc : Nat) (o : Option Value) (stk : List Value), stk = o.toList → (∀ (p : Program) (e : Env) (s : State) (m : MethodId) (args : Array Value) (below : List Frame) (meth : Method) (c : Code) (H : Heap) (locs : List Loc) (ls : Array Slot), p.tables.exec = Jvm.exec → c.code = cc → meth.sig.returnType = ret → meth.locks = false → s.heap.size = sz → va_P D vwCl w H → va_K D vwCl tys s → va_D (va_A wc sz) w → va_S (va_A wc sz) s.heap H locs → W p l e R s m args below meth c H locs mc ms (MQ below Qc args s mc ms (va_A wc sz)) (F0 m pc ls stk)) → K mc ms w lv pc stk) → K 0 0 wc (lv_args 0 As) 0 []) : Met l y (.code y cc nL ret :: wsL_law) R (va_Pc As (zPre D tys wc sz)) Qc mc ms (va_A wc sz) := by
  refine Met.ofW (cc := cc) (maxL := nL) (ret := ret) hy rfl ?_
  intro p e s m args below meth c s₁ B hml hv
  obtain ⟨rfl, hsz, hP, hK, hD0, hNs⟩ := hv
  have hts := atoms_spec (ws := (Cond.code y cc nL ret :: wsL_law)) B.pre
  have hl := lv_entry As (n := nL) hlen
  rw [lg_entry_eq]
  refine body (Yf p l e R s m As.toArray below meth c (va_A wc sz) nL D (MQ below Qc As.toArray s mc ms (va_A wc sz))) ⟨p, e, s, m, As.toArray, below, meth, c, va_A wc sz, _, rfl, B.exec, B.bytes, hml, findClass_of_methodNamed B.named, fun w h => hts w (List.mem_cons_of_mem _ h), hK, fun q h => Or.inr (by rw [← hsz]; exact h), hNs⟩ ?_ s.heap [] _ hP hD0.self va_S.rf hl
  intro w lv pc o stk _ hh H locs ls hP1 hD1 hS1 _
  exact hh p e s m As.toArray below meth c H locs ls B.exec B.bytes B.returns B.notSynchronized hsz hP1 hK hD1 hS1
theorem MI.of {l : Launch} {y : MethodName} {cc : ByteArray} {nL : Nat} {ret : FieldType} {R : Room} {D : va_G} {tys : List (ClassId × FieldType)} {As : List Value} {wc : va_W} {post : Int → va_W → Prop} (own : String) (hy : y.cls = own ∧ plainName own = true) (hret : ret = .int ∨ ret = .boolean) (hlen : (lg_sl As).length ≤ nL)
    (hbool : ret = .boolean → ∀ r w, post r w → r = 0 ∨ r = 1)
    (body : ∀ (K : KT), YC l K own cc nL R D tys → (∀ (r : Int) (w : va_W) (lv : List (Nat × Value)) (pc : Nat), decode cc pc = .ok (.ireturn, 1) → post r w → K R.cells R.slots w lv pc [.int (zI r)]) → K 0 0 wc (lv_args 0 As) 0 []) : MI l y cc nL ret R D tys As wc post := by
  intro sz
  obtain ⟨rfl, hy⟩ := hy
  refine zY_entry hy hlen (fun K C hret2 => body K C ?_)
  intro r w lv pc hd hp
  refine hret2 w lv pc (some (.int (zI r))) _ rfl ?_
  intro p e s m args below meth c H locs ls hx hb hr hlocks hsz hP hK hD hS
  subst hsz
  have hn : narrow ret (.int (zI r)) = .int (zI r) := by
    rcases hret with rfl | rfl
    · rfl
    · rcases hbool rfl r w hp with rfl | rfl <;> decide +kernel
  exact W.zret hx hb hr hn (fun t ht hW => ⟨⟨zI r, (r, w), rfl, ⟨rfl, hp⟩, by rw [ht]; exact hP, va_K.moved hW.alike hK, hD⟩, hS.F ht⟩) hS.2.2 hd hlocks
theorem MV.of {l : Launch} {y : MethodName} {cc : ByteArray} {nL : Nat} {R : Room} {D : va_G} {tys : List (ClassId × FieldType)} {As : List Value} {wc : va_W} {post : va_W → Prop} (own : String) (hy : y.cls = own ∧ plainName own = true) (hlen : (lg_sl As).length ≤ nL)
    (body : ∀ (K : KT), YC l K own cc nL R D tys → (∀ (w : va_W) (lv : List (Nat × Value)) (pc : Nat), decode cc pc = .ok (.return_, 1) → post w → K R.cells R.slots w lv pc []) → K 0 0 wc (lv_args 0 As) 0 []) : MV l y cc nL R D tys As wc post := by
  intro sz
  obtain ⟨rfl, hy⟩ := hy
  refine zY_entry hy hlen (fun K C hret2 => body K C ?_)
  intro w lv pc hd hp
  refine hret2 w lv pc none _ rfl ?_
  intro p e s m args below meth c H locs ls hx hb hr hlocks hsz hP hK hD hS
  subst hsz
  exact W.vret hx hb hr (fun t ht hW => ⟨⟨w, rfl, hp, by rw [ht]; exact hP, va_K.moved hW.alike hK, hD⟩, hS.F ht⟩) hS.2.2 hd hlocks
theorem MR.of {l : Launch} {y : MethodName} {cc : ByteArray} {nL : Nat} {ret : FieldType} {R : Room} {D : va_G} {tys : List (ClassId × FieldType)} {As : List Value} {wc : va_W} {post : Nat → va_W → Prop} (own : String) (hy : y.cls = own ∧ plainName own = true) (hret : (∃ n, ret = .object n) ∨ ∃ t, ret = .array t) (hlen : (lg_sl As).length ≤ nL)
    (body : ∀ (K : KT), YC l K own cc nL R D tys → (∀ (r : Nat) (w : va_W) (lv : List (Nat × Value)) (pc : Nat), decode cc pc = .ok (.areturn, 1) → post r w → K R.cells R.slots w lv pc [.ref r]) → K 0 0 wc (lv_args 0 As) 0 []) : MR l y cc nL ret R D tys As wc post := by
  intro sz
  obtain ⟨rfl, hy⟩ := hy
  refine zY_entry hy hlen (fun K C hret2 => body K C ?_)
  intro r w lv pc hd hp
  refine hret2 w lv pc (some (.ref r)) _ rfl ?_
  intro p e s m args below meth c H locs ls hx hb hr hlocks hsz hP hK hD hS
  subst hsz
  exact W.aret hx hb hr hret (Or.inr ⟨r, rfl⟩) (fun t ht hW => ⟨⟨(r, w), r, rfl, hp, rfl, by rw [ht]; exact hP, va_K.moved hW.alike hK, hD⟩, hS.F ht⟩) hS.2.2 hd hlocks
/-- the words of a call: of an instance method by a virtual call -/
def LKv (own : String) (idx : Nat) (y : MethodName) (yc : ByteArray) (ynL : Nat) (ret : Option FieldType) (yn : Nat) : Prop := (Cond.methodLink own idx y ∈ wsL_law ∧ Cond.instanceMethod y ∈ wsL_law ∧ Cond.selects y.cls y y ∈ wsL_law ∧ Cond.initialized y.cls ∈ wsL_law ∧ Cond.code y yc ynL ret ∈ wsL_law) ∧ y.cls ≠ "java/lang/invoke/MethodHandle" ∧ y.cls ≠ "java/lang/invoke/VarHandle" ∧ (parseMethodDescriptor y.desc).map (fun d => d.parameters.length) = some yn
/-- .. of a static one -/
def LKs (own : String) (idx : Nat) (y : MethodName) (yc : ByteArray) (ynL : Nat) (ret : Option FieldType) (yn : Nat) : Prop := (Cond.methodLink own idx y ∈ wsL_law ∧ Cond.static y ∈ wsL_law ∧ Cond.initialized y.cls ∈ wsL_law ∧ Cond.code y yc ynL ret ∈ wsL_law) ∧ y.cls ≠ "java/lang/invoke/MethodHandle" ∧ y.cls ≠ "java/lang/invoke/VarHandle" ∧ (parseMethodDescriptor y.desc).map (fun d => d.parameters.length) = some yn
theorem zGood {y : MethodName} {yc : ByteArray} {ynL : Nat} {ret : Option FieldType} (h : Cond.code y yc ynL ret ∈ wsL_law) : GoodIn wsL_law (.code y yc ynL ret :: wsL_law) := by
  intro w hw
  have hg := List.all_eq_true.mp wsL_good
  rcases List.mem_cons.mp hw with rfl | hw
  · exact ⟨h, good_of_word (hg _ h)⟩
  · exact ⟨hw, good_of_word (hg _ hw)⟩
theorem zGoodV {own : String} {idx : Nat} {y : MethodName} {yc : ByteArray} {ynL yn : Nat} {ret : Option FieldType} (h : LKv own idx y yc ynL ret yn) : GoodIn wsL_law (wsV own idx y.cls y (.code y yc ynL ret :: wsL_law)) := by
  intro w hw
  have hg := List.all_eq_true.mp wsL_good
  obtain ⟨⟨h1, h2, h3, h4, h5⟩, -⟩ := h
  unfold wsV at hw
  rcases List.mem_append.mp hw with hw | hw
  · simp only [List.mem_cons, List.not_mem_nil, or_false] at hw
    rcases hw with rfl | rfl | rfl | rfl
    · exact ⟨h1, good_of_word (hg _ h1)⟩
    · exact ⟨h2, good_of_word (hg _ h2)⟩
    · exact ⟨h3, good_of_word (hg _ h3)⟩
    · exact ⟨h4, good_of_word (hg _ h4)⟩
  · exact zGood h5 w hw
theorem zGoodS {own : String} {idx : Nat} {y : MethodName} {yc : ByteArray} {ynL yn : Nat} {ret : Option FieldType} (h : LKs own idx y yc ynL ret yn) : GoodIn wsL_law (va_wsS own idx y (.code y yc ynL ret :: wsL_law)) := by
  intro w hw
  have hg := List.all_eq_true.mp wsL_good
  obtain ⟨⟨h1, h3, h4, h5⟩, -⟩ := h
  unfold va_wsS at hw
  rcases List.mem_append.mp hw with hw | hw
  · simp only [List.mem_cons, List.not_mem_nil, or_false] at hw
    rcases hw with rfl | rfl | rfl
    · exact ⟨h1, good_of_word (hg _ h1)⟩
    · exact ⟨h3, good_of_word (hg _ h3)⟩
    · exact ⟨h4, good_of_word (hg _ h4)⟩
  · exact zGood h5 w hw
/-- how the callee's cells lie among ours: their places, those of the rest -/
def zCut (ws wc wr : va_W) (isC isR : List Nat) : Prop := isC.map (fun i => ws[i]?) = wc.map some ∧ isR.map (fun i => ws[i]?) = wr.map some ∧ va_nd isC = true ∧ va_nd isR = true ∧ ∀ i ∈ isR, i ∉ isC
/-- .. and behind the call -/
def zBack (wr w1 ws2 : va_W) (isN : List Nat) : Prop := isN.map (fun i => (wr ++ w1)[i]?) = ws2.map some ∧ va_nd isN = true
theorem zCut.P {D : va_G} {ws wc : va_W} {isC : List Nat} {H : Heap} (hC : isC.map (fun i => ws[i]?) = wc.map some) (hP : va_P D vwCl ws H) : va_P D vwCl wc H := by
  refine hP.sub isC ?_
  have : isC.filterMap (fun i => ws[i]?) = (isC.map (fun i => ws[i]?)).filterMap id := by rw [List.filterMap_map]; rfl
  rw [this, hC, List.filterMap_map]
  simp
theorem y_calli {l : Launch} {K : KT} {own : String} {cc : ByteArray} {nL : Nat} {R : Room} {D : va_G} {tys : List (ClassId × FieldType)} {k n : Nat} {ws : va_W} {lv : List (Nat × Value)} {pc : Nat} {st stk : List Value} {idx : Nat} {y : MethodName} {yc : ByteArray} {ynL yn : Nat} {yret : FieldType} {rm : Room} {wc wr : va_W} {post : Int → va_W → Prop} {As : List Value} {b ci jb : Nat} {fs : List Value} {T : u_T} {N : Nat} (C : YC l K own cc nL R D tys) (hM : MI l y yc ynL yret rm D tys (.ref b :: As) wc post) (LK : LKv own idx y yc ynL (some yret) yn) (isC isR : List Nat) (hcut : zCut ws wc wr isC isR) (hb0 : wc[jb]? = some (b, .inr (ci, fs))) (hcl : vwCl[ci]? = some (y.cls, T, N)) (hd : decode cc pc = .ok (.invokevirtual idx, 3)) (hstk : stk = As.reverse ++ .ref b :: st) (hn : As.length = yn) (hR : rm.frames + 1 ≤ R.frames ∧ 8 + (ynL + 11) + rm.locals ≤ R.locals ∧ rm.cells = 0 ∧ rm.slots = 0 ∧ k ≤ R.cells ∧ n ≤ R.slots ∧ (st.map fun v => v.category).sum ≤ 8)
    (g : ∀ (r : Int) (w1 : va_W), post r w1 → ∃ isN ws2, zBack wr w1 ws2 isN ∧ K k n ws2 lv (pc + 3) (.int (zI r) :: st)) : K k n ws lv pc stk := by
  subst hstk
  obtain ⟨p, e, s, m, args, below, meth, c, A, Q, rfl, hx, hb, hml, hown, hts, hK, hA, hNs⟩ := C
  obtain ⟨hC, hRr, hnC, hnd, hdis⟩ := hcut
  obtain ⟨hR1, hR2, hR3, hR4, hR5, hR6, hst⟩ := hR
  intro H locs ls hP hD hS h
  have hPc : va_P D vwCl wc H := zCut.P hC hP
  have hDc := hD.sub (ws' := wc) isC hnC hC
  have hFc := va_free (wc := wc) hD hS hA isC hC
  have hM' := hM H.size
  refine va_calli (va_runV (As := As) (rest := st) ⟨hx, hb, hml, hown, hts⟩ hM' (cwV yn hts (zGoodV LK) rfl rfl rfl ⟨rfl, LK.2.1, LK.2.2.1, LK.2.2.2⟩ ⟨hR1, hR2⟩) ⟨fun a U g mk q => ⟨q.1, q.2.1, q.2.2.1, va_K.moved (u := U) (U := U.calling g mk a) (Vm.Alike.refl U.vm) q.2.2.2.1, q.2.2.2.2.1, ⟨zN_same (u := U) (U := U.calling g mk a) rfl q.2.2.2.2.2.1, zS.same (u := U) (U := U.calling g mk a) rfl q.2.2.2.2.2.2⟩⟩, va_recv hK hPc (ci := ci) (q0 := jb) hcl hb0, fun U hU hW => ⟨rfl, by rw [hU], by rw [hU]; exact hPc, va_K.moved hW.alike hK, hDc.weaken (fun _ _ _ _ => trivial), ⟨zN_warm hW hNs.1, by rw [hU]; exact zS.warm hW (zS.kept hNs.2 hS.2.1 hS.1 (fun q h => hFc q h))⟩⟩⟩ rfl hn h.1 rfl (lv_room hst) hd ⟨by omega, by omega⟩) hS (fun q _ h => hFc q h) hFc (fun r u t H1 locs1 ht hvm hw hB hz1 hk1 hS1 => ?_)
  obtain ⟨ri, w1⟩ := u
  obtain ⟨rfl, hw⟩ := hw
  obtain ⟨isN, ws2, ⟨hN, hnN⟩, g⟩ := g ri w1 hw
  obtain ⟨hP1, hK1, hD1⟩ := hB
  rw [ht] at hP1
  obtain ⟨hP2, hD2⟩ := va_join (wr := wr) (w1 := w1) hP hD isC isR hC hRr hnd hdis hk1 hFc hP1 hD1
  rw [hR3, hR4]
  exact g H1 locs1 ls (zCut.P hN hP2) (hD2.sub (ws' := ws2) isN hnN hN) hS1 h
theorem y_callis {l : Launch} {K : KT} {own : String} {cc : ByteArray} {nL : Nat} {R : Room} {D : va_G} {tys : List (ClassId × FieldType)} {k n : Nat} {ws : va_W} {lv : List (Nat × Value)} {pc : Nat} {st stk : List Value} {idx : Nat} {y : MethodName} {yc : ByteArray} {ynL yn : Nat} {yret : FieldType} {rm : Room} {wc wr : va_W} {post : Int → va_W → Prop} {As : List Value}  (C : YC l K own cc nL R D tys) (hM : MI l y yc ynL yret rm D tys As wc post) (LK : LKs own idx y yc ynL (some yret) yn) (isC isR : List Nat) (hcut : zCut ws wc wr isC isR) (hd : decode cc pc = .ok (.invokestatic idx, 3)) (hstk : stk = As.reverse ++ st) (hn : As.length = yn) (hR : rm.frames + 1 ≤ R.frames ∧ 8 + (ynL + 11) + rm.locals ≤ R.locals ∧ rm.cells = 0 ∧ rm.slots = 0 ∧ k ≤ R.cells ∧ n ≤ R.slots ∧ (st.map fun v => v.category).sum ≤ 8)
    (g : ∀ (r : Int) (w1 : va_W), post r w1 → ∃ isN ws2, zBack wr w1 ws2 isN ∧ K k n ws2 lv (pc + 3) (.int (zI r) :: st)) : K k n ws lv pc stk := by
  subst hstk
  obtain ⟨p, e, s, m, args, below, meth, c, A, Q, rfl, hx, hb, hml, hown, hts, hK, hA, hNs⟩ := C
  obtain ⟨hC, hRr, hnC, hnd, hdis⟩ := hcut
  obtain ⟨hR1, hR2, hR3, hR4, hR5, hR6, hst⟩ := hR
  intro H locs ls hP hD hS h
  have hPc : va_P D vwCl wc H := zCut.P hC hP
  have hDc := hD.sub (ws' := wc) isC hnC hC
  have hFc := va_free (wc := wc) hD hS hA isC hC
  have hM' := hM H.size
  refine va_calli (va_runS (As := As) (rest := st) ⟨hx, hb, hml, hown, hts⟩ hM' (va_cwS yn hts (zGoodS LK) rfl rfl rfl ⟨LK.2.1, LK.2.2.1, LK.2.2.2⟩ ⟨hR1, hR2⟩) ⟨fun a U g mk q => ⟨q.1, q.2.1, q.2.2.1, va_K.moved (u := U) (U := U.calling g mk a) (Vm.Alike.refl U.vm) q.2.2.2.1, q.2.2.2.2.1, ⟨zN_same (u := U) (U := U.calling g mk a) rfl q.2.2.2.2.2.1, zS.same (u := U) (U := U.calling g mk a) rfl q.2.2.2.2.2.2⟩⟩, fun U hU hW => ⟨rfl, by rw [hU], by rw [hU]; exact hPc, va_K.moved hW.alike hK, hDc.weaken (fun _ _ _ _ => trivial), ⟨zN_warm hW hNs.1, by rw [hU]; exact zS.warm hW (zS.kept hNs.2 hS.2.1 hS.1 (fun q h => hFc q h))⟩⟩⟩ rfl hn h.1 rfl (lv_room hst) hd ⟨by omega, by omega⟩) hS (fun q _ h => hFc q h) hFc (fun r u t H1 locs1 ht hvm hw hB hz1 hk1 hS1 => ?_)
  obtain ⟨ri, w1⟩ := u
  obtain ⟨rfl, hw⟩ := hw
  obtain ⟨isN, ws2, ⟨hN, hnN⟩, g⟩ := g ri w1 hw
  obtain ⟨hP1, hK1, hD1⟩ := hB
  rw [ht] at hP1
  obtain ⟨hP2, hD2⟩ := va_join (wr := wr) (w1 := w1) hP hD isC isR hC hRr hnd hdis hk1 hFc hP1 hD1
  rw [hR3, hR4]
  exact g H1 locs1 ls (zCut.P hN hP2) (hD2.sub (ws' := ws2) isN hnN hN) hS1 h
/-- .. of a private static method of another class of the nest -/
def LKsN (own : String) (idx : Nat) (y : MethodName) (yc : ByteArray) (ynL : Nat) (ret : Option FieldType) (yn : Nat) : Prop := ((own, idx, y) ∈ zNest ∧ Cond.static y ∈ wsL_law ∧ Cond.initialized y.cls ∈ wsL_law ∧ Cond.code y yc ynL ret ∈ wsL_law) ∧ y.cls ≠ "java/lang/invoke/MethodHandle" ∧ y.cls ≠ "java/lang/invoke/VarHandle" ∧ (parseMethodDescriptor y.desc).map (fun d => d.parameters.length) = some yn
theorem y_callisN {l : Launch} {K : KT} {own : String} {cc : ByteArray} {nL : Nat} {R : Room} {D : va_G} {tys : List (ClassId × FieldType)} {k n : Nat} {ws : va_W} {lv : List (Nat × Value)} {pc : Nat} {st stk : List Value} {idx : Nat} {y : MethodName} {yc : ByteArray} {ynL yn : Nat} {yret : FieldType} {rm : Room} {wc wr : va_W} {post : Int → va_W → Prop} {As : List Value}  (C : YC l K own cc nL R D tys) (hM : MI l y yc ynL yret rm D tys As wc post) (LK : LKsN own idx y yc ynL (some yret) yn) (isC isR : List Nat) (hcut : zCut ws wc wr isC isR) (hd : decode cc pc = .ok (.invokestatic idx, 3)) (hstk : stk = As.reverse ++ st) (hn : As.length = yn) (hR : rm.frames + 1 ≤ R.frames ∧ 8 + (ynL + 11) + rm.locals ≤ R.locals ∧ rm.cells = 0 ∧ rm.slots = 0 ∧ k ≤ R.cells ∧ n ≤ R.slots ∧ (st.map fun v => v.category).sum ≤ 8)
    (g : ∀ (r : Int) (w1 : va_W), post r w1 → ∃ isN ws2, zBack wr w1 ws2 isN ∧ K k n ws2 lv (pc + 3) (.int (zI r) :: st)) : K k n ws lv pc stk := by
  subst hstk
  obtain ⟨p, e, s, m, args, below, meth, c, A, Q, rfl, hx, hb, hml, hown, hts, hK, hA, hNs⟩ := C
  obtain ⟨hC, hRr, hnC, hnd, hdis⟩ := hcut
  obtain ⟨hR1, hR2, hR3, hR4, hR5, hR6, hst⟩ := hR
  intro H locs ls hP hD hS h
  have hPc : va_P D vwCl wc H := zCut.P hC hP
  have hDc := hD.sub (ws' := wc) isC hnC hC
  have hFc := va_free (wc := wc) hD hS hA isC hC
  have hM' := hM H.size
  refine va_calli (va_runSN (As := As) (rest := st) ⟨hx, hb, hml, hown, hts⟩ hM' ⟨va_cnB yn hts (zGood LK.1.2.2.2) rfl rfl rfl (hNs.1 _ LK.1.1) (hts _ LK.1.2.2.1) ⟨LK.2.1, LK.2.2.1, LK.2.2.2⟩ ⟨hR1, hR2⟩, hts _ LK.1.2.1, trivial⟩ ⟨fun a U g mk q => ⟨q.1, q.2.1, q.2.2.1, va_K.moved (u := U) (U := U.calling g mk a) (Vm.Alike.refl U.vm) q.2.2.2.1, q.2.2.2.2.1, ⟨zN_same (u := U) (U := U.calling g mk a) rfl q.2.2.2.2.2.1, zS.same (u := U) (U := U.calling g mk a) rfl q.2.2.2.2.2.2⟩⟩, fun U hU hW => ⟨rfl, by rw [hU], by rw [hU]; exact hPc, va_K.moved hW.alike hK, hDc.weaken (fun _ _ _ _ => trivial), ⟨zN_warm hW hNs.1, by rw [hU]; exact zS.warm hW (zS.kept hNs.2 hS.2.1 hS.1 (fun q h => hFc q h))⟩⟩⟩ rfl hn h.1 rfl (lv_room hst) hd ⟨by omega, by omega⟩) hS (fun q _ h => hFc q h) hFc (fun r u t H1 locs1 ht hvm hw hB hz1 hk1 hS1 => ?_)
  obtain ⟨ri, w1⟩ := u
  obtain ⟨rfl, hw⟩ := hw
  obtain ⟨isN, ws2, ⟨hN, hnN⟩, g⟩ := g ri w1 hw
  obtain ⟨hP1, hK1, hD1⟩ := hB
  rw [ht] at hP1
  obtain ⟨hP2, hD2⟩ := va_join (wr := wr) (w1 := w1) hP hD isC isR hC hRr hnd hdis hk1 hFc hP1 hD1
  rw [hR3, hR4]
  exact g H1 locs1 ls (zCut.P hN hP2) (hD2.sub (ws' := ws2) isN hnN hN) hS1 h
theorem y_callv {l : Launch} {K : KT} {own : String} {cc : ByteArray} {nL : Nat} {R : Room} {D : va_G} {tys : List (ClassId × FieldType)} {k n : Nat} {ws : va_W} {lv : List (Nat × Value)} {pc : Nat} {st stk : List Value} {idx : Nat} {y : MethodName} {yc : ByteArray} {ynL yn : Nat}  {rm : Room} {wc wr : va_W} {post : va_W → Prop} {As : List Value} {b ci jb : Nat} {fs : List Value} {T : u_T} {N : Nat} (C : YC l K own cc nL R D tys) (hM : MV l y yc ynL rm D tys (.ref b :: As) wc post) (LK : LKv own idx y yc ynL none yn) (isC isR : List Nat) (hcut : zCut ws wc wr isC isR) (hb0 : wc[jb]? = some (b, .inr (ci, fs))) (hcl : vwCl[ci]? = some (y.cls, T, N)) (hd : decode cc pc = .ok (.invokevirtual idx, 3)) (hstk : stk = As.reverse ++ .ref b :: st) (hn : As.length = yn) (hR : rm.frames + 1 ≤ R.frames ∧ 8 + (ynL + 11) + rm.locals ≤ R.locals ∧ rm.cells = 0 ∧ rm.slots = 0 ∧ k ≤ R.cells ∧ n ≤ R.slots ∧ (st.map fun v => v.category).sum ≤ 8)
    (g : ∀ (w1 : va_W), post w1 → ∃ isN ws2, zBack wr w1 ws2 isN ∧ K k n ws2 lv (pc + 3) st) : K k n ws lv pc stk := by
  subst hstk
  obtain ⟨p, e, s, m, args, below, meth, c, A, Q, rfl, hx, hb, hml, hown, hts, hK, hA, hNs⟩ := C
  obtain ⟨hC, hRr, hnC, hnd, hdis⟩ := hcut
  obtain ⟨hR1, hR2, hR3, hR4, hR5, hR6, hst⟩ := hR
  intro H locs ls hP hD hS h
  have hPc : va_P D vwCl wc H := zCut.P hC hP
  have hDc := hD.sub (ws' := wc) isC hnC hC
  have hFc := va_free (wc := wc) hD hS hA isC hC
  have hM' := hM H.size
  refine va_callv (va_runV (As := As) (rest := st) ⟨hx, hb, hml, hown, hts⟩ hM' (cwV yn hts (zGoodV LK) rfl rfl rfl ⟨rfl, LK.2.1, LK.2.2.1, LK.2.2.2⟩ ⟨hR1, hR2⟩) ⟨fun a U g mk q => ⟨q.1, q.2.1, q.2.2.1, va_K.moved (u := U) (U := U.calling g mk a) (Vm.Alike.refl U.vm) q.2.2.2.1, q.2.2.2.2.1, ⟨zN_same (u := U) (U := U.calling g mk a) rfl q.2.2.2.2.2.1, zS.same (u := U) (U := U.calling g mk a) rfl q.2.2.2.2.2.2⟩⟩, va_recv hK hPc (ci := ci) (q0 := jb) hcl hb0, fun U hU hW => ⟨rfl, by rw [hU], by rw [hU]; exact hPc, va_K.moved hW.alike hK, hDc.weaken (fun _ _ _ _ => trivial), ⟨zN_warm hW hNs.1, by rw [hU]; exact zS.warm hW (zS.kept hNs.2 hS.2.1 hS.1 (fun q h => hFc q h))⟩⟩⟩ rfl hn h.1 rfl (lv_room hst) hd ⟨by omega, by omega⟩) hS (fun q _ h => hFc q h) hFc (fun u t H1 locs1 ht hvm hw hB hz1 hk1 hS1 => ?_)
  obtain ⟨isN, ws2, ⟨hN, hnN⟩, g⟩ := g u hw
  obtain ⟨hP1, hK1, hD1⟩ := hB
  rw [ht] at hP1
  obtain ⟨hP2, hD2⟩ := va_join (wr := wr) (w1 := u) hP hD isC isR hC hRr hnd hdis hk1 hFc hP1 hD1
  rw [hR3, hR4]
  exact g H1 locs1 ls (zCut.P hN hP2) (hD2.sub (ws' := ws2) isN hnN hN) hS1 h
theorem y_callvs {l : Launch} {K : KT} {own : String} {cc : ByteArray} {nL : Nat} {R : Room} {D : va_G} {tys : List (ClassId × FieldType)} {k n : Nat} {ws : va_W} {lv : List (Nat × Value)} {pc : Nat} {st stk : List Value} {idx : Nat} {y : MethodName} {yc : ByteArray} {ynL yn : Nat}  {rm : Room} {wc wr : va_W} {post : va_W → Prop} {As : List Value}  (C : YC l K own cc nL R D tys) (hM : MV l y yc ynL rm D tys As wc post) (LK : LKs own idx y yc ynL none yn) (isC isR : List Nat) (hcut : zCut ws wc wr isC isR) (hd : decode cc pc = .ok (.invokestatic idx, 3)) (hstk : stk = As.reverse ++ st) (hn : As.length = yn) (hR : rm.frames + 1 ≤ R.frames ∧ 8 + (ynL + 11) + rm.locals ≤ R.locals ∧ rm.cells = 0 ∧ rm.slots = 0 ∧ k ≤ R.cells ∧ n ≤ R.slots ∧ (st.map fun v => v.category).sum ≤ 8)
    (g : ∀ (w1 : va_W), post w1 → ∃ isN ws2, zBack wr w1 ws2 isN ∧ K k n ws2 lv (pc + 3) st) : K k n ws lv pc stk := by
  subst hstk
  obtain ⟨p, e, s, m, args, below, meth, c, A, Q, rfl, hx, hb, hml, hown, hts, hK, hA, hNs⟩ := C
  obtain ⟨hC, hRr, hnC, hnd, hdis⟩ := hcut
  obtain ⟨hR1, hR2, hR3, hR4, hR5, hR6, hst⟩ := hR
  intro H locs ls hP hD hS h
  have hPc : va_P D vwCl wc H := zCut.P hC hP
  have hDc := hD.sub (ws' := wc) isC hnC hC
  have hFc := va_free (wc := wc) hD hS hA isC hC
  have hM' := hM H.size
  refine va_callv (va_runS (As := As) (rest := st) ⟨hx, hb, hml, hown, hts⟩ hM' (va_cwS yn hts (zGoodS LK) rfl rfl rfl ⟨LK.2.1, LK.2.2.1, LK.2.2.2⟩ ⟨hR1, hR2⟩) ⟨fun a U g mk q => ⟨q.1, q.2.1, q.2.2.1, va_K.moved (u := U) (U := U.calling g mk a) (Vm.Alike.refl U.vm) q.2.2.2.1, q.2.2.2.2.1, ⟨zN_same (u := U) (U := U.calling g mk a) rfl q.2.2.2.2.2.1, zS.same (u := U) (U := U.calling g mk a) rfl q.2.2.2.2.2.2⟩⟩, fun U hU hW => ⟨rfl, by rw [hU], by rw [hU]; exact hPc, va_K.moved hW.alike hK, hDc.weaken (fun _ _ _ _ => trivial), ⟨zN_warm hW hNs.1, by rw [hU]; exact zS.warm hW (zS.kept hNs.2 hS.2.1 hS.1 (fun q h => hFc q h))⟩⟩⟩ rfl hn h.1 rfl (lv_room hst) hd ⟨by omega, by omega⟩) hS (fun q _ h => hFc q h) hFc (fun u t H1 locs1 ht hvm hw hB hz1 hk1 hS1 => ?_)
  obtain ⟨isN, ws2, ⟨hN, hnN⟩, g⟩ := g u hw
  obtain ⟨hP1, hK1, hD1⟩ := hB
  rw [ht] at hP1
  obtain ⟨hP2, hD2⟩ := va_join (wr := wr) (w1 := u) hP hD isC isR hC hRr hnd hdis hk1 hFc hP1 hD1
  rw [hR3, hR4]
  exact g H1 locs1 ls (zCut.P hN hP2) (hD2.sub (ws' := ws2) isN hnN hN) hS1 h
theorem y_callr {l : Launch} {K : KT} {own : String} {cc : ByteArray} {nL : Nat} {R : Room} {D : va_G} {tys : List (ClassId × FieldType)} {k n : Nat} {ws : va_W} {lv : List (Nat × Value)} {pc : Nat} {st stk : List Value} {idx : Nat} {y : MethodName} {yc : ByteArray} {ynL yn : Nat} {yret : FieldType} {rm : Room} {wc wr : va_W} {post : Nat → va_W → Prop} {As : List Value} {b ci jb : Nat} {fs : List Value} {T : u_T} {N : Nat} (C : YC l K own cc nL R D tys) (hM : MR l y yc ynL yret rm D tys (.ref b :: As) wc post) (LK : LKv own idx y yc ynL (some yret) yn) (isC isR : List Nat) (hcut : zCut ws wc wr isC isR) (hb0 : wc[jb]? = some (b, .inr (ci, fs))) (hcl : vwCl[ci]? = some (y.cls, T, N)) (hd : decode cc pc = .ok (.invokevirtual idx, 3)) (hstk : stk = As.reverse ++ .ref b :: st) (hn : As.length = yn) (hR : rm.frames + 1 ≤ R.frames ∧ 8 + (ynL + 11) + rm.locals ≤ R.locals ∧ rm.cells = 0 ∧ rm.slots = 0 ∧ k ≤ R.cells ∧ n ≤ R.slots ∧ (st.map fun v => v.category).sum ≤ 8)
    (g : ∀ (r : Nat) (w1 : va_W), post r w1 → ∃ isN ws2, zBack wr w1 ws2 isN ∧ K k n ws2 lv (pc + 3) (.ref r :: st)) : K k n ws lv pc stk := by
  subst hstk
  obtain ⟨p, e, s, m, args, below, meth, c, A, Q, rfl, hx, hb, hml, hown, hts, hK, hA, hNs⟩ := C
  obtain ⟨hC, hRr, hnC, hnd, hdis⟩ := hcut
  obtain ⟨hR1, hR2, hR3, hR4, hR5, hR6, hst⟩ := hR
  intro H locs ls hP hD hS h
  have hPc : va_P D vwCl wc H := zCut.P hC hP
  have hDc := hD.sub (ws' := wc) isC hnC hC
  have hFc := va_free (wc := wc) hD hS hA isC hC
  have hM' := hM H.size
  refine va_callr (va_runV (As := As) (rest := st) ⟨hx, hb, hml, hown, hts⟩ hM' (cwV yn hts (zGoodV LK) rfl rfl rfl ⟨rfl, LK.2.1, LK.2.2.1, LK.2.2.2⟩ ⟨hR1, hR2⟩) ⟨fun a U g mk q => ⟨q.1, q.2.1, q.2.2.1, va_K.moved (u := U) (U := U.calling g mk a) (Vm.Alike.refl U.vm) q.2.2.2.1, q.2.2.2.2.1, ⟨zN_same (u := U) (U := U.calling g mk a) rfl q.2.2.2.2.2.1, zS.same (u := U) (U := U.calling g mk a) rfl q.2.2.2.2.2.2⟩⟩, va_recv hK hPc (ci := ci) (q0 := jb) hcl hb0, fun U hU hW => ⟨rfl, by rw [hU], by rw [hU]; exact hPc, va_K.moved hW.alike hK, hDc.weaken (fun _ _ _ _ => trivial), ⟨zN_warm hW hNs.1, by rw [hU]; exact zS.warm hW (zS.kept hNs.2 hS.2.1 hS.1 (fun q h => hFc q h))⟩⟩⟩ rfl hn h.1 rfl (lv_room hst) hd ⟨by omega, by omega⟩) hS (fun q _ h => hFc q h) hFc (fun u r t H1 locs1 ht hvm hw hB hz1 hk1 hS1 => ?_)
  obtain ⟨ri, w1⟩ := u
  obtain ⟨rfl, hB⟩ := hB
  obtain ⟨isN, ws2, ⟨hN, hnN⟩, g⟩ := g r w1 hw
  obtain ⟨hP1, hK1, hD1⟩ := hB
  rw [ht] at hP1
  obtain ⟨hP2, hD2⟩ := va_join (wr := wr) (w1 := w1) hP hD isC isR hC hRr hnd hdis hk1 hFc hP1 hD1
  rw [hR3, hR4]
  exact g H1 locs1 ls (zCut.P hN hP2) (hD2.sub (ws' := ws2) isN hnN hN) hS1 h
/-- .. of a constructor -/
def LKi (own : String) (idx : Nat) (y : MethodName) (yc : ByteArray) (ynL : Nat) (ret : Option FieldType) (yn : Nat) : Prop := (Cond.methodLink own idx y ∈ wsL_law ∧ Cond.instanceMethod y ∈ wsL_law ∧ Cond.initialized y.cls ∈ wsL_law ∧ Cond.code y yc ynL ret ∈ wsL_law) ∧ y.name = "<init>" ∧ y.cls ≠ "java/lang/invoke/MethodHandle" ∧ y.cls ≠ "java/lang/invoke/VarHandle" ∧ (parseMethodDescriptor y.desc).map (fun d => d.parameters.length) = some yn
/-- the cells at some places -/
def zPick (ws : va_W) (is : List Nat) : va_W := is.filterMap (fun i => ws[i]?)
/-- a virtual call that leaves its cells as they are -/
theorem y_pcall {l : Launch} {K : KT} {own : String} {cc : ByteArray} {nL : Nat} {R : Room} {D : va_G} {tys : List (ClassId × FieldType)} {k n : Nat} {ws : va_W} {lv : List (Nat × Value)} {pc : Nat} {st stk : List Value} {idx : Nat} {y : MethodName} {yc : ByteArray} {ynL yn : Nat} {yret : FieldType} {rm : Room} {wc : va_W} {Pr : Int → Prop} {As : List Value} {b ci : Nat} {fs : List Value} {T : u_T} {N : Nat} (C : YC l K own cc nL R D tys) (hM : MI l y yc ynL yret rm D tys (.ref b :: As) wc (fun r w => w = wc ∧ Pr r)) (LK : LKv own idx y yc ynL (some yret) yn) (isC isR isN : List Nat) (hcut : zCut ws wc (zPick ws isR) isC isR) (hback : zBack (zPick ws isR) wc ws isN) (hb0 : wc[0]? = some (b, .inr (ci, fs))) (hcl : vwCl[ci]? = some (y.cls, T, N)) (hd : decode cc pc = .ok (.invokevirtual idx, 3)) (hstk : stk = As.reverse ++ .ref b :: st) (hn : As.length = yn) (hR : rm.frames + 1 ≤ R.frames ∧ 8 + (ynL + 11) + rm.locals ≤ R.locals ∧ rm.cells = 0 ∧ rm.slots = 0 ∧ k ≤ R.cells ∧ n ≤ R.slots ∧ (st.map fun v => v.category).sum ≤ 8)
    (g : ∀ r : Int, Pr r → K k n ws lv (pc + 3) (.int (zI r) :: st)) : K k n ws lv pc stk :=
  y_calli C hM LK isC isR hcut hb0 hcl hd hstk hn hR (fun r w1 h => ⟨isN, ws, by rw [h.1]; exact hback, g r h.2⟩)
/-- .. a static one -/
theorem y_pcalls {l : Launch} {K : KT} {own : String} {cc : ByteArray} {nL : Nat} {R : Room} {D : va_G} {tys : List (ClassId × FieldType)} {k n : Nat} {ws : va_W} {lv : List (Nat × Value)} {pc : Nat} {st stk : List Value} {idx : Nat} {y : MethodName} {yc : ByteArray} {ynL yn : Nat} {yret : FieldType} {rm : Room} {wc : va_W} {Pr : Int → Prop} {As : List Value} (C : YC l K own cc nL R D tys) (hM : MI l y yc ynL yret rm D tys As wc (fun r w => w = wc ∧ Pr r)) (LK : LKs own idx y yc ynL (some yret) yn) (isC isR isN : List Nat) (hcut : zCut ws wc (zPick ws isR) isC isR) (hback : zBack (zPick ws isR) wc ws isN) (hd : decode cc pc = .ok (.invokestatic idx, 3)) (hstk : stk = As.reverse ++ st) (hn : As.length = yn) (hR : rm.frames + 1 ≤ R.frames ∧ 8 + (ynL + 11) + rm.locals ≤ R.locals ∧ rm.cells = 0 ∧ rm.slots = 0 ∧ k ≤ R.cells ∧ n ≤ R.slots ∧ (st.map fun v => v.category).sum ≤ 8)
    (g : ∀ r : Int, Pr r → K k n ws lv (pc + 3) (.int (zI r) :: st)) : K k n ws lv pc stk :=
  y_callis C hM LK isC isR hcut hd hstk hn hR (fun r w1 h => ⟨isN, ws, by rw [h.1]; exact hback, g r h.2⟩)
/-- .. a static one -/
theorem y_pcallsN {l : Launch} {K : KT} {own : String} {cc : ByteArray} {nL : Nat} {R : Room} {D : va_G} {tys : List (ClassId × FieldType)} {k n : Nat} {ws : va_W} {lv : List (Nat × Value)} {pc : Nat} {st stk : List Value} {idx : Nat} {y : MethodName} {yc : ByteArray} {ynL yn : Nat} {yret : FieldType} {rm : Room} {wc : va_W} {Pr : Int → Prop} {As : List Value} (C : YC l K own cc nL R D tys) (hM : MI l y yc ynL yret rm D tys As wc (fun r w => w = wc ∧ Pr r)) (LK : LKsN own idx y yc ynL (some yret) yn) (isC isR isN : List Nat) (hcut : zCut ws wc (zPick ws isR) isC isR) (hback : zBack (zPick ws isR) wc ws isN) (hd : decode cc pc = .ok (.invokestatic idx, 3)) (hstk : stk = As.reverse ++ st) (hn : As.length = yn) (hR : rm.frames + 1 ≤ R.frames ∧ 8 + (ynL + 11) + rm.locals ≤ R.locals ∧ rm.cells = 0 ∧ rm.slots = 0 ∧ k ≤ R.cells ∧ n ≤ R.slots ∧ (st.map fun v => v.category).sum ≤ 8)
    (g : ∀ r : Int, Pr r → K k n ws lv (pc + 3) (.int (zI r) :: st)) : K k n ws lv pc stk :=
  y_callisN C hM LK isC isR hcut hd hstk hn hR (fun r w1 h => ⟨isN, ws, by rw [h.1]; exact hback, g r h.2⟩)
/-- the locals in another order, or fewer -/
theorem y_lsub {l : Launch} {K : KT} {own : String} {cc : ByteArray} {nL : Nat} {R : Room} {D : va_G} {tys : List (ClassId × FieldType)} {k n : Nat} {ws : va_W} {lv lv' : List (Nat × Value)} {pc : Nat} {st : List Value} (C : YC l K own cc nL R D tys) (ks : List Nat) (h : lv_pick lv ks = lv') (g : K k n ws lv' pc st) : K k n ws lv pc st := by
  obtain ⟨p, e, s, m, args, below, meth, c, A, Q, rfl, -⟩ := C
  intro H locs ls hP hD hS hl
  exact g H locs ls hP hD hS (lv_sub hl ks h)
/-- the cells in another order, or fewer -/
theorem y_wsub {l : Launch} {K : KT} {own : String} {cc : ByteArray} {nL : Nat} {R : Room} {D : va_G} {tys : List (ClassId × FieldType)} {k n : Nat} {ws ws' : va_W} {lv : List (Nat × Value)} {pc : Nat} {st : List Value} (C : YC l K own cc nL R D tys) (is : List Nat) (h : is.map (fun i => ws[i]?) = ws'.map some) (hn : va_nd is = true) (g : K k n ws' lv pc st) : K k n ws lv pc st := by
  obtain ⟨p, e, s, m, args, below, meth, c, A, Q, rfl, -⟩ := C
  intro H locs ls hP hD hS hl
  exact g H locs ls (zCut.P h hP) (hD.sub is hn h) hS hl
/-- room is only ever too much -/
theorem y_widen {l : Launch} {K : KT} {own : String} {cc : ByteArray} {nL : Nat} {R : Room} {D : va_G} {tys : List (ClassId × FieldType)} {k n k2 n2 : Nat} {ws : va_W} {lv : List (Nat × Value)} {pc : Nat} {st : List Value} (C : YC l K own cc nL R D tys) (h1 : k ≤ k2) (h2 : n ≤ n2) (g : K k2 n2 ws lv pc st) : K k n ws lv pc st := by
  obtain ⟨p, e, s, m, args, below, meth, c, A, Q, rfl, -⟩ := C
  intro H locs ls hP hD hS hl
  exact W.widen h1 h2 (g H locs ls hP hD hS hl)
/-! ===== truth as a number, counts ===== -/
noncomputable def bI (P : Prop) : Int := @ite Int P (Classical.propDecidable P) 1 0
theorem bI_t {P : Prop} (h : P) : bI P = 1 := by simp [bI, h]
theorem bI_f {P : Prop} (h : ¬ P) : bI P = 0 := by simp [bI, h]
theorem bI_01 (P : Prop) : bI P = 0 ∨ bI P = 1 := by
  by_cases h : P
  · exact Or.inr (bI_t h)
  · exact Or.inl (bI_f h)
theorem bI_iff {P Q : Prop} (h : P ↔ Q) : bI P = bI Q := by rw [propext h]
theorem bI_1 {P : Prop} (h : ¬ bI P = 0) : P := Classical.byContradiction fun q => h (bI_f q)
theorem bI_0 {P : Prop} (h : bI P = 0) : ¬ P := fun q => by rw [bI_t q] at h; omega
theorem bI_R (P : Prop) : zR (bI P) := by
  rcases bI_01 P with h | h <;> rw [h] <;> constructor <;> omega
/-- how many c from 0 on, below n, keep to P -/
noncomputable def cnt (P : Int → Prop) : Nat → Int
  | 0 => 0
  | n + 1 => cnt P n + bI (P (n : Int))
noncomputable def zcnt (P : Int → Prop) (c : Int) : Int := cnt P c.toNat
theorem zcnt_0 (P : Int → Prop) : zcnt P 0 = 0 := rfl
theorem zcnt_s (P : Int → Prop) {c : Int} (h : 0 ≤ c) : zcnt P (c + 1) = zcnt P c + bI (P c) := by
  obtain ⟨n, rfl⟩ := Int.eq_ofNat_of_zero_le h
  show cnt P (n + 1) = _
  rfl
theorem zcnt_r (P : Int → Prop) {c : Int} (h : 0 ≤ c) : 0 ≤ zcnt P c ∧ zcnt P c ≤ c := by
  obtain ⟨n, rfl⟩ := Int.eq_ofNat_of_zero_le h
  show 0 ≤ cnt P n ∧ cnt P n ≤ n
  induction n with
  | zero => exact ⟨Int.le_refl _, Int.le_refl _⟩
  | succ n ih =>
    have := ih (by omega)
    have e : cnt P (n + 1) = cnt P n + bI (P (n : Int)) := rfl
    rcases bI_01 (P (n : Int)) with h | h <;> rw [e, h] <;> omega
theorem zcnt_t {P : Int → Prop} {c : Int} (h : 0 ≤ c) (hp : P c) : zcnt P (c + 1) = zcnt P c + 1 := by rw [zcnt_s P h, bI_t hp]
theorem zcnt_f {P : Int → Prop} {c : Int} (h : 0 ≤ c) (hp : ¬ P c) : zcnt P (c + 1) = zcnt P c := by rw [zcnt_s P h, bI_f hp]; omega
theorem cnt_congr {P Q : Int → Prop} (n : Nat) (h : ∀ c : Int, 0 ≤ c → c < n → (P c ↔ Q c)) : cnt P n = cnt Q n := by
  induction n with
  | zero => rfl
  | succ n ih =>
    show cnt P n + bI (P n) = cnt Q n + bI (Q n)
    rw [ih (fun c h0 h1 => h c h0 (by omega)), bI_iff (h n (by omega) (by omega))]
theorem zcnt_congr {P Q : Int → Prop} {c : Int} (h : ∀ k : Int, 0 ≤ k → k < c → (P k ↔ Q k)) : zcnt P c = zcnt Q c :=
  cnt_congr _ (fun k h0 h1 => h k h0 (by omega))
def LKiN (own : String) (idx : Nat) (y : MethodName) (yc : ByteArray) (ynL : Nat) (ret : Option FieldType) (yn : Nat) : Prop := ((own, idx, y) ∈ zNest ∧ Cond.instanceMethod y ∈ wsL_law ∧ Cond.initialized y.cls ∈ wsL_law ∧ Cond.code y yc ynL ret ∈ wsL_law) ∧ y.name = "<init>" ∧ y.cls ≠ "java/lang/invoke/MethodHandle" ∧ y.cls ≠ "java/lang/invoke/VarHandle" ∧ (parseMethodDescriptor y.desc).map (fun d => d.parameters.length) = some yn
theorem y_mcalli {l : Launch} {K : KT} {own : String} {cc : ByteArray} {nL : Nat} {R : Room} {D : va_G} {tys : List (ClassId × FieldType)} {k n : Nat} {ws : va_W} {lv : List (Nat × Value)} {pc : Nat} {st stk : List Value} {idx : Nat} {y : MethodName} {yc : ByteArray} {ynL yn : Nat} {yret : FieldType} {rm : Room} {wc : va_W} {post : Int → va_W → Prop} {As : List Value} {b ci jb : Nat} {fs : List Value} {T : u_T} {N : Nat} (C : YC l K own cc nL R D tys) (hM : MI l y yc ynL yret rm D tys (.ref b :: As) wc post) (LK : LKv own idx y yc ynL (some yret) yn) (isC isR : List Nat) (hcut : zCut ws wc (zPick ws isR) isC isR) (hb0 : wc[jb]? = some (b, .inr (ci, fs))) (hcl : vwCl[ci]? = some (y.cls, T, N)) (hd : decode cc pc = .ok (.invokevirtual idx, 3)) (hstk : stk = As.reverse ++ .ref b :: st) (hn : As.length = yn) (hR : rm.frames + 1 ≤ R.frames ∧ 8 + (ynL + 11) + rm.locals ≤ R.locals ∧ rm.cells = 0 ∧ rm.slots = 0 ∧ k ≤ R.cells ∧ n ≤ R.slots ∧ (st.map fun v => v.category).sum ≤ 8)
    (g : ∀ (r : Int) (w1 : va_W), post r w1 → ∃ isN ws2, zBack (zPick ws isR) w1 ws2 isN ∧ K k n ws2 lv (pc + 3) (.int (zI r) :: st)) : K k n ws lv pc stk := y_calli C hM LK isC isR hcut hb0 hcl hd hstk hn hR g
theorem y_mcallis {l : Launch} {K : KT} {own : String} {cc : ByteArray} {nL : Nat} {R : Room} {D : va_G} {tys : List (ClassId × FieldType)} {k n : Nat} {ws : va_W} {lv : List (Nat × Value)} {pc : Nat} {st stk : List Value} {idx : Nat} {y : MethodName} {yc : ByteArray} {ynL yn : Nat} {yret : FieldType} {rm : Room} {wc : va_W} {post : Int → va_W → Prop} {As : List Value}  (C : YC l K own cc nL R D tys) (hM : MI l y yc ynL yret rm D tys As wc post) (LK : LKs own idx y yc ynL (some yret) yn) (isC isR : List Nat) (hcut : zCut ws wc (zPick ws isR) isC isR) (hd : decode cc pc = .ok (.invokestatic idx, 3)) (hstk : stk = As.reverse ++ st) (hn : As.length = yn) (hR : rm.frames + 1 ≤ R.frames ∧ 8 + (ynL + 11) + rm.locals ≤ R.locals ∧ rm.cells = 0 ∧ rm.slots = 0 ∧ k ≤ R.cells ∧ n ≤ R.slots ∧ (st.map fun v => v.category).sum ≤ 8)
    (g : ∀ (r : Int) (w1 : va_W), post r w1 → ∃ isN ws2, zBack (zPick ws isR) w1 ws2 isN ∧ K k n ws2 lv (pc + 3) (.int (zI r) :: st)) : K k n ws lv pc stk := y_callis C hM LK isC isR hcut hd hstk hn hR g
theorem y_mcallv {l : Launch} {K : KT} {own : String} {cc : ByteArray} {nL : Nat} {R : Room} {D : va_G} {tys : List (ClassId × FieldType)} {k n : Nat} {ws : va_W} {lv : List (Nat × Value)} {pc : Nat} {st stk : List Value} {idx : Nat} {y : MethodName} {yc : ByteArray} {ynL yn : Nat}  {rm : Room} {wc : va_W} {post : va_W → Prop} {As : List Value} {b ci jb : Nat} {fs : List Value} {T : u_T} {N : Nat} (C : YC l K own cc nL R D tys) (hM : MV l y yc ynL rm D tys (.ref b :: As) wc post) (LK : LKv own idx y yc ynL none yn) (isC isR : List Nat) (hcut : zCut ws wc (zPick ws isR) isC isR) (hb0 : wc[jb]? = some (b, .inr (ci, fs))) (hcl : vwCl[ci]? = some (y.cls, T, N)) (hd : decode cc pc = .ok (.invokevirtual idx, 3)) (hstk : stk = As.reverse ++ .ref b :: st) (hn : As.length = yn) (hR : rm.frames + 1 ≤ R.frames ∧ 8 + (ynL + 11) + rm.locals ≤ R.locals ∧ rm.cells = 0 ∧ rm.slots = 0 ∧ k ≤ R.cells ∧ n ≤ R.slots ∧ (st.map fun v => v.category).sum ≤ 8)
    (g : ∀ (w1 : va_W), post w1 → ∃ isN ws2, zBack (zPick ws isR) w1 ws2 isN ∧ K k n ws2 lv (pc + 3) st) : K k n ws lv pc stk := y_callv C hM LK isC isR hcut hb0 hcl hd hstk hn hR g
theorem y_mcallvs {l : Launch} {K : KT} {own : String} {cc : ByteArray} {nL : Nat} {R : Room} {D : va_G} {tys : List (ClassId × FieldType)} {k n : Nat} {ws : va_W} {lv : List (Nat × Value)} {pc : Nat} {st stk : List Value} {idx : Nat} {y : MethodName} {yc : ByteArray} {ynL yn : Nat}  {rm : Room} {wc : va_W} {post : va_W → Prop} {As : List Value}  (C : YC l K own cc nL R D tys) (hM : MV l y yc ynL rm D tys As wc post) (LK : LKs own idx y yc ynL none yn) (isC isR : List Nat) (hcut : zCut ws wc (zPick ws isR) isC isR) (hd : decode cc pc = .ok (.invokestatic idx, 3)) (hstk : stk = As.reverse ++ st) (hn : As.length = yn) (hR : rm.frames + 1 ≤ R.frames ∧ 8 + (ynL + 11) + rm.locals ≤ R.locals ∧ rm.cells = 0 ∧ rm.slots = 0 ∧ k ≤ R.cells ∧ n ≤ R.slots ∧ (st.map fun v => v.category).sum ≤ 8)
    (g : ∀ (w1 : va_W), post w1 → ∃ isN ws2, zBack (zPick ws isR) w1 ws2 isN ∧ K k n ws2 lv (pc + 3) st) : K k n ws lv pc stk := y_callvs C hM LK isC isR hcut hd hstk hn hR g
theorem y_mcallr {l : Launch} {K : KT} {own : String} {cc : ByteArray} {nL : Nat} {R : Room} {D : va_G} {tys : List (ClassId × FieldType)} {k n : Nat} {ws : va_W} {lv : List (Nat × Value)} {pc : Nat} {st stk : List Value} {idx : Nat} {y : MethodName} {yc : ByteArray} {ynL yn : Nat} {yret : FieldType} {rm : Room} {wc : va_W} {post : Nat → va_W → Prop} {As : List Value} {b ci jb : Nat} {fs : List Value} {T : u_T} {N : Nat} (C : YC l K own cc nL R D tys) (hM : MR l y yc ynL yret rm D tys (.ref b :: As) wc post) (LK : LKv own idx y yc ynL (some yret) yn) (isC isR : List Nat) (hcut : zCut ws wc (zPick ws isR) isC isR) (hb0 : wc[jb]? = some (b, .inr (ci, fs))) (hcl : vwCl[ci]? = some (y.cls, T, N)) (hd : decode cc pc = .ok (.invokevirtual idx, 3)) (hstk : stk = As.reverse ++ .ref b :: st) (hn : As.length = yn) (hR : rm.frames + 1 ≤ R.frames ∧ 8 + (ynL + 11) + rm.locals ≤ R.locals ∧ rm.cells = 0 ∧ rm.slots = 0 ∧ k ≤ R.cells ∧ n ≤ R.slots ∧ (st.map fun v => v.category).sum ≤ 8)
    (g : ∀ (r : Nat) (w1 : va_W), post r w1 → ∃ isN ws2, zBack (zPick ws isR) w1 ws2 isN ∧ K k n ws2 lv (pc + 3) (.ref r :: st)) : K k n ws lv pc stk := y_callr C hM LK isC isR hcut hb0 hcl hd hstk hn hR g
theorem zcnt_step {P : Int → Prop} {n n' c : Int} (h : 0 ≤ c) (hn : n = zcnt P c) (h2 : (P c ∧ n' = n + 1) ∨ (¬ P c ∧ n' = n)) : n' = zcnt P (c + 1) := by
  rcases h2 with ⟨a, b⟩ | ⟨a, b⟩
  · rw [zcnt_t h a, b, hn]
  · rw [zcnt_f h a, b, hn]
theorem y_top {K : KT} {k n : Nat} {ws : va_W} {lv : List (Nat × Value)} {pc : Nat} {st : List Value} {a b : Int} (h : a = b) (g : K k n ws lv pc (.int (zI b) :: st)) : K k n ws lv pc (.int (zI a) :: st) := Eq.mpr (congrArg (fun x => K k n ws lv pc (.int (zI x) :: st)) h) g
theorem zbn {x : Int} (h : x = 0 ∨ x = 1) : narrow .boolean (.int (zI x)) = .int (zI x) := by
  rcases h with rfl | rfl <;> decide +kernel
theorem zbf {x : Int} (h : x = 0 ∨ x = 1) : fits .boolean (.int (zI x)) = true := by
  rcases h with rfl | rfl <;> decide +kernel
