/-! ===== constructors: what is made ===== -/
def zAO (U : State) : Prop := va_AO "StripDepths$Sheet" U
def YCA (l : Launch) (K : KT) (own : String) (cc : ByteArray) (nL : Nat) (R : Room) (D : va_G) (tys : List (ClassId × FieldType)) : Prop :=
  ∃ (p : Program) (e : Env) (s : State) (m : MethodId) (args : Array Value) (below : List Frame) (meth : Method) (c : Code) (A : Nat → Prop) (Q : State → Prop),
    K = Yf p l e R s m args below meth c A nL D Q ∧ p.tables.exec = Jvm.exec ∧ c.code = cc ∧ c.maxLocals = nL ∧ s.vm.findClass own = some m.cls ∧ (∀ w ∈ wsL_law, w.before args s = true) ∧ va_K D vwCl tys s ∧ (∀ q, s.heap.size ≤ q → A q) ∧ (zN s ∧ zS A s s.heap) ∧ zAO s
def YCI (l : Launch) (K : KT) (own : String) (cc : ByteArray) (nL : Nat) (R : Room) (D : va_G) (tys : List (ClassId × FieldType)) : Prop :=
  ∃ (p : Program) (e : Env) (s : State) (m : MethodId) (args : Array Value) (below : List Frame) (meth : Method) (c : Code) (A : Nat → Prop) (Q : State → Prop),
    K = Yf p l e R s m args below meth c A nL D Q ∧ p.tables.exec = Jvm.exec ∧ c.code = cc ∧ c.maxLocals = nL ∧ s.vm.findClass own = some m.cls ∧ (∀ w ∈ wsL_law, w.before args s = true) ∧ va_K D vwCl tys s ∧ (∀ q, s.heap.size ≤ q → A q) ∧ (zN s ∧ zS A s s.heap) ∧ zAO s ∧ meth.name = "<init>"
section YK
variable {l : Launch} {K : KT} {own : String} {cc : ByteArray} {nL : Nat} {R : Room} {D : va_G} {tys : List (ClassId × FieldType)} {k n : Nat} {ws : va_W} {lv : List (Nat × Value)} {pc : Nat} {st : List Value}
theorem YCA.toC (C : YCA l K own cc nL R D tys) : YC l K own cc nL R D tys := by
  obtain ⟨p, e, s, m, args, below, meth, c, A, Q, hk, hx, hb, hml, hown, hts, hK, hA, hNs, hao⟩ := C
  exact ⟨p, e, s, m, args, below, meth, c, A, Q, hk, hx, hb, hml, hown, hts, hK, hA, hNs⟩
theorem YCI.toA (C : YCI l K own cc nL R D tys) : YCA l K own cc nL R D tys := by
  obtain ⟨p, e, s, m, args, below, meth, c, A, Q, hk, hx, hb, hml, hown, hts, hK, hA, hNs, hao, hmn⟩ := C
  exact ⟨p, e, s, m, args, below, meth, c, A, Q, hk, hx, hb, hml, hown, hts, hK, hA, hNs, hao⟩
def zPreC (D : va_G) (tys : List (ClassId × FieldType)) (wc : va_W) (sz : Nat) : State → Prop := fun U => zPre D tys wc sz U ∧ zAO U
/-- a constructor: its cells, and those that it makes -/
def MC (l : Launch) (y : MethodName) (cc : ByteArray) (nL : Nat) (R : Room) (D : va_G) (tys : List (ClassId × FieldType)) (As : List Value) (wc : va_W) (post : va_W → Prop) : Prop := ∀ sz : Nat, Met l y (.code y cc nL none :: wsL_law) R (va_Pc As (zPreC D tys wc sz)) (va_Qv (fun (u : va_W) => post u) (fun u t => zB D tys wc sz u t) (va_A wc sz)) R.cells R.slots (va_A wc sz)
theorem MC.of {y : MethodName} {As : List Value} {wc : va_W} {post : va_W → Prop} (own : String) (hy : y.cls = own ∧ plainName own = true ∧ y.name = "<init>") (hlen : (lg_sl As).length ≤ nL)
    (body : ∀ (K : KT), YCI l K own cc nL R D tys → (∀ (w : va_W) (lv : List (Nat × Value)) (pc : Nat), decode cc pc = .ok (.return_, 1) → post w → K R.cells R.slots w lv pc []) → K 0 0 wc (lv_args 0 As) 0 []) : MC l y cc nL R D tys As wc post := by
  intro sz
  obtain ⟨rfl, hy, hyn⟩ := hy
  refine Met.ofW (cc := cc) (maxL := nL) (ret := none) hy rfl ?_
  intro p e s m args below meth c s₁ B hml hv
  obtain ⟨rfl, ⟨hsz, hP, hK, hD0, hNs⟩, hao⟩ := hv
  subst hsz
  have hin : meth.name = y.name := (name_of_methodNamed B.named B.method).1
  have hts := atoms_spec (ws := (Cond.code y cc nL none :: wsL_law)) B.pre
  have hl := lv_entry As (n := nL) hlen
  rw [lg_entry_eq]
  refine body (Yf p l e R s m As.toArray below meth c (va_A wc s.heap.size) nL D (MQ below (va_Qv (fun (u : va_W) => post u) (fun u t => zB D tys wc s.heap.size u t) (va_A wc s.heap.size)) As.toArray s R.cells R.slots (va_A wc s.heap.size))) ⟨p, e, s, m, As.toArray, below, meth, c, va_A wc s.heap.size, _, rfl, B.exec, B.bytes, hml, findClass_of_methodNamed B.named, fun w h => hts w (List.mem_cons_of_mem _ h), hK, fun q h => Or.inr h, hNs, hao, hin.trans hyn⟩ ?_ s.heap [] _ hP hD0.self va_S.rf hl
  intro w lv pc hd hp H locs ls hP1 hD1 hS1 _
  exact W.vret B.exec B.bytes B.returns (fun t ht hW => ⟨⟨w, rfl, hp, by rw [ht]; exact hP1, va_K.moved hW.alike hK, hD1⟩, hS1.F ht⟩) hS1.2.2 hd B.notSynchronized
theorem zA_0 : (zA fun _ => 0) = fun _ => (0 : Int32) := by
  funext j
  exact zI_0
theorem y_newa (C : YCA l K own cc nL R D tys) {cA : ClassId} {i : Int} (N k' n' : Nat) (t0 : Nat) (ht : tys[t0]? = some (cA, .int)) (hd : decode cc pc = .ok (.newarray .int, 2)) (hN : i = (N : Int) ∧ N * 4 ≤ 536870912 ∧ N < 2147483648) (hk : k + 1 = k' ∧ n + N = n') (hR : k' ≤ R.cells ∧ n' ≤ R.slots) (g : ∀ q : Nat, ∃ ws', ws ++ [cI cA q N (fun _ => 0)] = ws' ∧ K k' n' ws' lv (pc + 2) (.ref q :: st)) : K k n ws lv pc (.int (zI i) :: st) := by
  obtain ⟨p, e, s, m, args, below, meth, c, A, Q, rfl, hx, hb, hml, hown, hts, hK, hA, hNs, hao⟩ := C
  obtain ⟨rfl, hN1, hN2⟩ := hN
  obtain ⟨rfl, rfl⟩ := hk
  intro H locs ls hP hD hS h
  refine va_newa (atype := .int) (ty := .int) (N' := N) (a0 := (N, .inl (zA fun _ => 0))) hx hb (hts _ qw_2_6) rfl hK hP hD hS hA (fun cA => by rw [zA_0]; rfl) ?_ ?_ hN1 hR.1 hR.2 hd (fun q cA' H1 hK1 hP1 hD1 hS1 => ?_)
  · rw [← zI_0]
    intro z
    have := (zI_lt ⟨by omega, by omega⟩ zR0).mp z
    omega
  · rw [zI_cl (by omega) (by omega)]
    omega
  · have e1 := va_nm_int (hK1.2 tys.length (cA', .int) (by simp)).2
    have e2 := va_nm_int (hK.2 t0 _ ht).2
    have e3 : cA' = cA := Option.some.inj (e1.symm.trans e2)
    subst e3
    obtain ⟨ws', rfl, g⟩ := g q
    exact g H1 locs ls hP1 hD1 hS1 h
theorem y_newq (C : YCA l K own cc nL R D tys) {cB : ClassId} {i : Int} {idx : Nat} (N k' n' : Nat) (t0 : Nat) (ht : tys[t0]? = some (cB, .object "StripDepths$Sheet")) (hw : Cond.classLink own idx "StripDepths$Sheet" ∈ wsL_law) (hd : decode cc pc = .ok (.anewarray idx, 3)) (hN : i = (N : Int) ∧ N * 4 ≤ 536870912 ∧ N < 2147483648) (hk : k + 1 = k' ∧ n + N = n') (hR : k' ≤ R.cells ∧ n' ≤ R.slots) (g : ∀ q : Nat, ∃ ws', ws ++ [cQ cB q N (fun _ => none)] = ws' ∧ K k' n' ws' lv (pc + 3) (.ref q :: st)) : K k n ws lv pc (.int (zI i) :: st) := by
  obtain ⟨p, e, s, m, args, below, meth, c, A, Q, rfl, hx, hb, hml, hown, hts, hK, hA, hNs, hao⟩ := C
  obtain ⟨rfl, hN1, hN2⟩ := hN
  obtain ⟨rfl, rfl⟩ := hk
  intro H locs ls hP hD hS h
  refine va_newq (N' := N) hx hb hown (hts _ hw) hao hK hP hD hS hA ?_ ?_ hN1 hR.1 hR.2 hd (fun q cA' H1 hK1 hP1 hD1 hS1 => ?_)
  · rw [← zI_0]
    intro z
    have := (zI_lt ⟨by omega, by omega⟩ zR0).mp z
    omega
  · rw [zI_cl (by omega) (by omega)]
    omega
  · obtain ⟨-, kA1, comp1, -, -, -, e1⟩ := hK1.2 tys.length (cA', .object "StripDepths$Sheet") (by simp)
    obtain ⟨-, kA2, comp2, -, -, -, e2⟩ := hK.2 t0 _ ht
    have e3 : cA' = cB := Option.some.inj (e1.symm.trans e2)
    subst e3
    obtain ⟨ws', rfl, g⟩ := g q
    exact g H1 locs ls hP1 hD1 hS1 h
def NWk (own : String) (idx ci : Nat) (Cn : String) (T : u_T) (N : Nat) (ty : Nat → FieldType) : Prop := vwCl[ci]? = some (Cn, T, N) ∧ Cond.classLink own idx Cn ∈ wsL_law ∧ Cond.instantiable Cn N ∈ wsL_law ∧ Cond.initialized Cn ∈ wsL_law ∧ (∀ w ∈ u_ws Cn T N, w ∈ wsL_law) ∧ ∀ k, k < N → parseFieldDescriptor (T k).2.2.1 = some (ty k)
theorem y_new (C : YCA l K own cc nL R D tys) {idx ci : Nat} {Cn : String} {T : u_T} {N : Nat} {ty : Nat → FieldType} (F : NWk own idx ci Cn T N ty) (fs : List Value) (k' n' : Nat) (hd : decode cc pc = .ok (.new idx, 3)) (hfs : ∀ j, j < N → defaultValue (ty j) = vp_V fs j) (hk : k + 1 = k' ∧ n + N = n') (hR : k' ≤ R.cells ∧ n' ≤ R.slots) (g : ∀ q : Nat, ∃ ws', ws ++ [(q, .inr (ci, fs))] = ws' ∧ K k' n' ws' lv (pc + 3) (.ref q :: st)) : K k n ws lv pc st := by
  obtain ⟨p, e, s, m, args, below, meth, c, A, Q, rfl, hx, hb, hml, hown, hts, hK, hA, hNs, hao⟩ := C
  obtain ⟨rfl, rfl⟩ := hk
  obtain ⟨f1, f2, f3, f4, f5, f6⟩ := F
  intro H locs ls hP hD hS h
  refine va_new hx hb hts f5 ty f6 hown (hts _ f2) (hts _ f3) (hts _ f4) hK hP hD hS hA f1 hfs hR.1 hR.2 hd (fun q H1 hP1 hD1 hS1 => ?_)
  obtain ⟨ws', rfl, g⟩ := g q
  exact g H1 locs ls hP1 hD1 hS1 h
/-- a final field that its own constructor writes -/
def FKf (own : String) (idx ci kf : Nat) (ty : FieldType) : Prop := ∃ (Cn : String) (T : u_T) (N : Nat) (ty0 : Nat → FieldType), vwCl[ci]? = some (Cn, T, N) ∧ kf < N ∧ Cond.fieldLink own idx (T kf).1 (T kf).2.1 (T kf).2.2.1 ∈ wsL_law ∧ (∀ w ∈ u_ws Cn T N, w ∈ wsL_law) ∧ (∀ k, k < N → parseFieldDescriptor (T k).2.2.1 = some (ty0 k)) ∧ (∀ a, a < N → ∀ b, b < N → a ≠ b → (T a).2.1 ≠ (T b).2.1) ∧ (T kf).2.2.2 = true ∧ parseFieldDescriptor (T kf).2.2.1 = some ty ∧ (T kf).1 = own
theorem y_putf (C : YCI l K own cc nL R D tys) {idx ci kf a : Nat} {fs : List Value} {v : Value} {ty : FieldType} (F : FKf own idx ci kf ty) (q0 : Nat) (ws' : va_W) (hd : decode cc pc = .ok (.putfield idx, 3)) (he : ws[q0]? = some (a, .inr (ci, fs))) (hn : narrow ty v = v) (hf : fits ty v = true) (hl : kf < fs.length) (hw : ws.set q0 (a, .inr (ci, fs.set kf v)) = ws') (g : K k n ws' lv (pc + 3) st) : K k n ws lv pc (v :: .ref a :: st) := by
  obtain ⟨p, e, s, m, args, below, meth, c, A, Q, rfl, hx, hb, hml, hown, hts, hK, hA, hNs, hao, hmn⟩ := C
  obtain ⟨Cn, T, N, ty0, f1, f2, f3, f4, f5, f6, f7, f8, f9⟩ := F
  subst hw
  intro H locs ls hP hD hS h
  exact va_putF hx hb hts f4 ty0 f5 f6 hown hK hP hD hS q0 he f1 kf f2 (hts _ f3) (fun _ z => z) f7 hmn f9 f8 hn hf hl hd (fun H1 locs1 hP1 hD1 hS1 => g H1 locs1 ls hP1 hD1 hS1 h)
def OIw (own : String) (idx : Nat) : Prop := Cond.methodLink own idx objectInit ∈ wsL_law ∧ Cond.instanceMethod objectInit ∈ wsL_law ∧ Cond.code objectInit ⟨#[0xb1]⟩ 1 none ∈ wsL_law
theorem y_oinit (C : YCA l K own cc nL R D tys) {idx a : Nat} (F : OIw own idx) (hd : decode cc pc = .ok (.invokespecial idx, 3)) (hR : 1 ≤ R.frames ∧ (st.map fun v => v.category).sum + 12 ≤ R.locals) (g : K k n ws lv (pc + 3) st) : K k n ws lv pc (.ref a :: st) := by
  obtain ⟨p, e, s, m, args, below, meth, c, A, Q, rfl, hx, hb, hml, hown, hts, hK, hA, hNs, hao⟩ := C
  intro H locs ls hP hD hS h
  refine W.objInit hx hb hown (hts _ F.1) (hts _ F.2.1) (hts _ F.2.2) rfl (by rw [hml]; exact h.1) rfl hd hR.1 ?_ (g H locs ls hP hD hS h)
  show 2 * 0 + _ + 12 ≤ _
  omega
theorem zGoodI {y : MethodName} {yc : ByteArray} {ynL : Nat} (h : Cond.code y yc ynL none ∈ wsL_law) : GoodIn wsL_law (.code y yc ynL none :: wsL_law) := zGood h
theorem y_ccall {stk : List Value} {idx : Nat} {y : MethodName} {yc : ByteArray} {ynL yn : Nat} {rm : Room} {wc : va_W} {post : va_W → Prop} {As : List Value} {b : Nat} (k' n' : Nat) (C : YCA l K own cc nL R D tys) (hM : MC l y yc ynL rm D tys (.ref b :: As) wc post) (LK : LKi own idx y yc ynL none yn) (isC isR : List Nat) (hcut : zCut ws wc (zPick ws isR) isC isR) (hd : decode cc pc = .ok (.invokespecial idx, 3)) (hstk : stk = As.reverse ++ .ref b :: st) (hn : As.length = yn) (hk : k + rm.cells = k' ∧ n + rm.slots = n') (hR : rm.frames + 1 ≤ R.frames ∧ 8 + (ynL + 11) + rm.locals ≤ R.locals ∧ k' ≤ R.cells ∧ n' ≤ R.slots ∧ (st.map fun v => v.category).sum ≤ 8)
    (g : ∀ (w1 : va_W), post w1 → ∃ isN ws2, zBack (zPick ws isR) w1 ws2 isN ∧ K k' n' ws2 lv (pc + 3) st) : K k n ws lv pc stk := by
  subst hstk
  obtain ⟨rfl, rfl⟩ := hk
  obtain ⟨p, e, s, m, args, below, meth, c, A, Q, rfl, hx, hb, hml, hown, hts, hK, hA, hNs, hao⟩ := C
  obtain ⟨hC, hRr, hnC, hnd, hdis⟩ := hcut
  obtain ⟨hR1, hR2, hR5, hR6, hst⟩ := hR
  intro H locs ls hP hD hS h
  have hPc : va_P D vwCl wc H := zCut.P hC hP
  have hDc := hD.sub (ws' := wc) isC hnC hC
  have hFc := va_free (wc := wc) hD hS hA isC hC
  have hM' := hM H.size
  refine va_callv (va_runI (As := As) (rest := st) ⟨hx, hb, hml, hown, hts⟩ hM' (cwI yn hts (zGood LK.1.2.2.2) rfl rfl rfl (hts _ LK.1.2.2.1) (hts _ LK.1.1) (hts _ LK.1.2.1) LK.2.1 ⟨LK.2.2.1, LK.2.2.2.1, LK.2.2.2.2⟩ ⟨hR1, hR2⟩) ⟨fun a U g mk q => ⟨q.1, ⟨q.2.1.1, q.2.1.2.1, va_K.moved (u := U) (U := U.calling g mk a) (Vm.Alike.refl U.vm) q.2.1.2.2.1, q.2.1.2.2.2.1, ⟨zN_same (u := U) (U := U.calling g mk a) rfl q.2.1.2.2.2.2.1, zS.same (u := U) (U := U.calling g mk a) rfl q.2.1.2.2.2.2.2⟩⟩, va_AO.moved (u := U) (U := U.calling g mk a) (Vm.Alike.refl U.vm) q.2.2⟩, fun U hU hW => ⟨rfl, ⟨by rw [hU], by rw [hU]; exact hPc, va_K.moved hW.alike hK, hDc.weaken (fun _ _ _ _ => trivial), ⟨zN_warm hW hNs.1, by rw [hU]; exact zS.warm hW (zS.kept hNs.2 hS.2.1 hS.1 (fun q h => hFc q h))⟩⟩, va_AO.moved hW.alike hao⟩⟩ rfl hn h.1 rfl (lv_room hst) hd ⟨by omega, by omega⟩) hS (fun q _ h => hFc q h) hFc (fun u t H1 locs1 ht hvm hw hB hz1 hk1 hS1 => ?_)
  obtain ⟨isN, ws2, ⟨hN, hnN⟩, g⟩ := g u hw
  obtain ⟨hP1, hK1, hD1⟩ := hB
  rw [ht] at hP1
  obtain ⟨hP2, hD2⟩ := va_join (wr := zPick ws isR) (w1 := u) hP hD isC isR hC hRr hnd hdis hk1 hFc hP1 hD1
  exact g H1 locs1 ls (zCut.P hN hP2) (hD2.sub (ws' := ws2) isN hnN hN) hS1 h
theorem y_ccallN {stk : List Value} {idx : Nat} {y : MethodName} {yc : ByteArray} {ynL yn : Nat} {rm : Room} {wc : va_W} {post : va_W → Prop} {As : List Value} {b : Nat} (k' n' : Nat) (C : YCA l K own cc nL R D tys) (hM : MC l y yc ynL rm D tys (.ref b :: As) wc post) (LK : LKiN own idx y yc ynL none yn) (isC isR : List Nat) (hcut : zCut ws wc (zPick ws isR) isC isR) (hd : decode cc pc = .ok (.invokespecial idx, 3)) (hstk : stk = As.reverse ++ .ref b :: st) (hn : As.length = yn) (hk : k + rm.cells = k' ∧ n + rm.slots = n') (hR : rm.frames + 1 ≤ R.frames ∧ 8 + (ynL + 11) + rm.locals ≤ R.locals ∧ k' ≤ R.cells ∧ n' ≤ R.slots ∧ (st.map fun v => v.category).sum ≤ 8)
    (g : ∀ (w1 : va_W), post w1 → ∃ isN ws2, zBack (zPick ws isR) w1 ws2 isN ∧ K k' n' ws2 lv (pc + 3) st) : K k n ws lv pc stk := by
  subst hstk
  obtain ⟨rfl, rfl⟩ := hk
  obtain ⟨p, e, s, m, args, below, meth, c, A, Q, rfl, hx, hb, hml, hown, hts, hK, hA, hNs, hao⟩ := C
  obtain ⟨hC, hRr, hnC, hnd, hdis⟩ := hcut
  obtain ⟨hR1, hR2, hR5, hR6, hst⟩ := hR
  intro H locs ls hP hD hS h
  have hPc : va_P D vwCl wc H := zCut.P hC hP
  have hDc := hD.sub (ws' := wc) isC hnC hC
  have hFc := va_free (wc := wc) hD hS hA isC hC
  have hM' := hM H.size
  refine va_callv (va_runIN (As := As) (rest := st) ⟨hx, hb, hml, hown, hts⟩ hM' ⟨va_cnB yn hts (zGood LK.1.2.2.2) rfl rfl rfl (hNs.1 _ LK.1.1) (hts _ LK.1.2.2.1) ⟨LK.2.2.1, LK.2.2.2.1, LK.2.2.2.2⟩ ⟨hR1, hR2⟩, LK.2.1, hts _ LK.1.2.1⟩ ⟨fun a U g mk q => ⟨q.1, ⟨q.2.1.1, q.2.1.2.1, va_K.moved (u := U) (U := U.calling g mk a) (Vm.Alike.refl U.vm) q.2.1.2.2.1, q.2.1.2.2.2.1, ⟨zN_same (u := U) (U := U.calling g mk a) rfl q.2.1.2.2.2.2.1, zS.same (u := U) (U := U.calling g mk a) rfl q.2.1.2.2.2.2.2⟩⟩, va_AO.moved (u := U) (U := U.calling g mk a) (Vm.Alike.refl U.vm) q.2.2⟩, fun U hU hW => ⟨rfl, ⟨by rw [hU], by rw [hU]; exact hPc, va_K.moved hW.alike hK, hDc.weaken (fun _ _ _ _ => trivial), ⟨zN_warm hW hNs.1, by rw [hU]; exact zS.warm hW (zS.kept hNs.2 hS.2.1 hS.1 (fun q h => hFc q h))⟩⟩, va_AO.moved hW.alike hao⟩⟩ rfl hn h.1 rfl (lv_room hst) hd ⟨by omega, by omega⟩) hS (fun q _ h => hFc q h) hFc (fun u t H1 locs1 ht hvm hw hB hz1 hk1 hS1 => ?_)
  obtain ⟨isN, ws2, ⟨hN, hnN⟩, g⟩ := g u hw
  obtain ⟨hP1, hK1, hD1⟩ := hB
  rw [ht] at hP1
  obtain ⟨hP2, hD2⟩ := va_join (wr := zPick ws isR) (w1 := u) hP hD isC isR hC hRr hnd hdis hk1 hFc hP1 hD1
  exact g H1 locs1 ls (zCut.P hN hP2) (hD2.sub (ws' := ws2) isN hnN hN) hS1 h
/-- the static row FIRST_VALUES, of a nest mate's, copied whole into a row of six -/
theorem y_getsN {idx : Nat} (C : YC l K RX4 cc nL R D tys) {cA : ClassId} (hi : idx = 37) (hd : decode cc pc = .ok (.getstatic idx, 3)) (ht : tys[0]? = some (cA, .int)) (g : ∀ a : Nat, (∀ (k n : Nat) (ws : va_W) (lv : List (Nat × Value)) (pc : Nat) (st : List Value) (idx2 a1 q1 : Nat) (g0 : Int → Int) (ws' : va_W), CyW RX4 idx2 → decode cc pc = .ok (.invokestatic idx2, 3) → ws[q1]? = some (a1, .inl (cA, 6, .inl (zA g0))) → (1 ≤ R.frames ∧ (st.map fun v => v.category).sum + (nativeFrameWords "java/lang/System" "arraycopy" 5 + 11) ≤ R.locals) → ws.set q1 (cI cA a1 6 (zC (zSf [8, 4, 1, 0, 60, 120]) g0 0 0 6)) = ws' → K k n ws' lv (pc + 3) st → K k n ws lv pc (.int (zI 6) :: .int (zI 0) :: .ref a1 :: .int (zI 0) :: .ref a :: st)) → K k n ws lv (pc + 3) (.ref a :: st)) : K k n ws lv pc st := by
  subst hi
  obtain ⟨p, e, s, m, args, below, meth, c, A, Q, rfl, hx, hb, hml, hown, hts, hK, hA, hNs⟩ := C
  obtain ⟨a, h1, h2, h3, h4⟩ := hNs.2.2 ("FIRST_VALUES", [8, 4, 1, 0, 60, 120]) (List.mem_of_getElem? (i := 2) rfl)
  intro H locs ls hP hD hS h
  refine va_getsN hx hb h1 hS hown (va_Nw.use rfl hNs.2.1) (fun _ z => z) hd (g a ?_ H locs ls hP hD hS h)
  intro k n ws lv pc st idx2 a1 q1 g0 ws' M hd he hR hw gg H locs ls hP hD hS h
  subst hw
  refine va_copyx hx hb (by rw [hml]; exact h.1.symm) hown (hts _ M.1) (hts _ M.2.1) (hts _ M.2.2.1) (hts _ M.2.2.2) hK hP hD hS h2 h3 h4 q1 0 he ht ?_ ?_ ?_ ?_ ?_ hR.1 hR.2 hd ?_
  · decide +kernel
  · decide +kernel
  · decide +kernel
  · decide +kernel
  · decide +kernel
  · have e1 : va_cpy (zSv [8, 4, 1, 0, 60, 120]) (zA g0) (zI 0).toNatClampNeg (zI 0).toNatClampNeg (zI 6).toNatClampNeg = zA (zC (zSf [8, 4, 1, 0, 60, 120]) g0 0 0 6) := by
      have e2 : zSv [8, 4, 1, 0, 60, 120] = zA (zSf [8, 4, 1, 0, 60, 120]) := rfl
      rw [e2]
      exact zA_cpy (by omega) (by omega) (by omega) (by omega) (by omega) (by omega)
    intro H1 locs1 p1 d1 s1
    rw [e1] at p1 d1
    exact gg H1 locs1 ls p1 d1 s1 h
end YK
