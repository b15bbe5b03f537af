/-! ===== floats and doubles ===== -/
theorem vf32_of {r : UInt32} (h : Jvm.FP.Core.val32 r ≠ .nan) : vf_n32 r := by
  have h2 := (Jvm.FP.Core.ne_nan32 r).mp h
  unfold vf_n32
  rw [UInt32.le_iff_toNat_le, UInt32.toNat_and]
  have e : (0x7fffffff : UInt32).toNat = 2 ^ 31 - 1 := rfl
  rw [e, Nat.and_two_pow_sub_one_eq_mod]
  exact h2
theorem vf64_of {r : UInt64} (h : Jvm.FP.Core.val64 r ≠ .nan) : vf_n64 r := by
  have h2 := (Jvm.FP.Core.ne_nan r).mp h
  unfold vf_n64
  rw [UInt64.le_iff_toNat_le, UInt64.toNat_and]
  have e : (0x7fffffffffffffff : UInt64).toNat = 2 ^ 63 - 1 := rfl
  rw [e, Nat.and_two_pow_sub_one_eq_mod]
  exact h2
def finP (d : Jvm.FP.Core.Datum) : Bool := match d with
  | .fin _ c _ => decide (¬ c = 0)
  | _ => false
theorem gap_fin : ∀ n : Nat, n < 200 → 1 ≤ n → finP (Jvm.FP.Core.round Jvm.FP.Core.b32 (Jvm.FP.Core.ofInt (n : Int))) = true := by decide +kernel
theorem i2f_ne (x : Int32) : Jvm.FP.Core.val32 (FP.i2f x) ≠ .nan := by
  rw [Jvm.FP.Core.val32_i2f]
  intro h
  have h2 := Jvm.FP.Core.round_nan.mp h
  unfold Jvm.FP.Core.ofInt at h2
  cases h2
theorem away_ne {a b : Int} (hb : 1 ≤ b ∧ b < 200) : Jvm.FP.Core.val32 (FP.fdiv (FP.i2f (zI a)) (FP.i2f (zI b))) ≠ .nan := by
  rw [Jvm.FP.Core.val32_fdiv]
  intro h
  have hg : finP (Jvm.FP.Core.val32 (FP.i2f (zI b))) = true := by
    rw [Jvm.FP.Core.val32_i2f, zI_toInt ⟨by omega, by omega⟩]
    have h3 := gap_fin b.toNat (by omega) (by omega)
    rw [Int.toNat_of_nonneg (by omega)] at h3
    exact h3
  rcases (Jvm.FP.Core.quotient_nan _ _ _).mp h with h1 | h1 | ⟨s, t, h1, h2⟩ | ⟨s, t, q, r, h1, h2⟩
  · exact i2f_ne _ h1
  · exact i2f_ne _ h1
  · rw [h2] at hg
    cases hg
  · rw [h2] at hg
    simp [finP] at hg
theorem f2d_ne {x : UInt32} (h : Jvm.FP.Core.val32 x ≠ .nan) : Jvm.FP.Core.val64 (FP.f2d x) ≠ .nan := by
  have h1 : ¬ Jvm.FP.Core.fIsNaN x = true := fun z => h ((Jvm.FP.Core.fIsNaN_iff x).mp z)
  unfold FP.f2d
  rw [if_neg h1, Jvm.FP.Core.val64_f2d]
  intro h2
  exact h (Jvm.FP.Core.round_nan.mp h2)
theorem clr_ne : ∀ n : Nat, n ≤ 32 → vf_n64 (FP.ddiv (FP.i2d (Int32.ofNat n)) 4629700416936869888) := by unfold vf_n64; decide +kernel
theorem clr_ne2 : ∀ n : Nat, n ≤ 32 → Jvm.FP.Core.dIsNaN (FP.ddiv (FP.i2d (Int32.ofNat n)) 4629700416936869888) = false := by decide +kernel
theorem m1_ne : Jvm.FP.Core.fIsNaN 3212836864 = false := by decide +kernel
theorem m1d_ne : Jvm.FP.Core.dIsNaN 13830554455654793216 = false := by decide +kernel
section YFl
variable {l : Launch} {K : KT} {own : String} {cc : ByteArray} {nL : Nat} {R : Room} {D : va_G} {tys : List (ClassId × FieldType)} {k n : Nat} {ws : va_W} {lv : List (Nat × Value)} {pc : Nat} {st : List Value}
theorem y_i2f (C : YC l K own cc nL R D tys) {x : Int32} (hd : decode cc pc = .ok (.i2f, 1)) (g : K k n ws lv (pc + 1) (.float (FP.i2f x) :: st)) : K k n ws lv pc (.int x :: st) := by
  obtain ⟨p, e, s, m, args, below, meth, c, A, Q, rfl, hx, hb, hml, hown, hts, hK, hA, hNs⟩ := C
  intro H locs ls hP hD hS h
  exact lv_i2f hx hb hd (g H locs ls hP hD hS h)
theorem y_fdiv (C : YC l K own cc nL R D tys) {x y : UInt32} (hd : decode cc pc = .ok (.fdiv, 1)) (hn : vf_n32 (FP.fdiv x y)) (g : K k n ws lv (pc + 1) (.float (FP.fdiv x y) :: st)) : K k n ws lv pc (.float y :: .float x :: st) := by
  obtain ⟨p, e, s, m, args, below, meth, c, A, Q, rfl, hx, hb, hml, hown, hts, hK, hA, hNs⟩ := C
  intro H locs ls hP hD hS h
  exact lv_fdiv hx hb hd hn (g H locs ls hP hD hS h)
theorem y_i2d (C : YC l K own cc nL R D tys) {x : Int32} (hd : decode cc pc = .ok (.i2d, 1)) (g : K k n ws lv (pc + 1) (.double (FP.i2d x) :: st)) : K k n ws lv pc (.int x :: st) := by
  obtain ⟨p, e, s, m, args, below, meth, c, A, Q, rfl, hx, hb, hml, hown, hts, hK, hA, hNs⟩ := C
  intro H locs ls hP hD hS h
  exact lv_i2d hx hb hd (g H locs ls hP hD hS h)
theorem y_ddiv (C : YC l K own cc nL R D tys) {x y : UInt64} (hd : decode cc pc = .ok (.ddiv, 1)) (hn : vf_n64 (FP.ddiv x y)) (g : K k n ws lv (pc + 1) (.double (FP.ddiv x y) :: st)) : K k n ws lv pc (.double y :: .double x :: st) := by
  obtain ⟨p, e, s, m, args, below, meth, c, A, Q, rfl, hx, hb, hml, hown, hts, hK, hA, hNs⟩ := C
  intro H locs ls hP hD hS h
  exact lv_ddiv hx hb hd hn (g H locs ls hP hD hS h)
theorem y_f2d (C : YC l K own cc nL R D tys) {x : UInt32} (hd : decode cc pc = .ok (.f2d, 1)) (hn : vf_n64 (FP.f2d x)) (g : K k n ws lv (pc + 1) (.double (FP.f2d x) :: st)) : K k n ws lv pc (.float x :: st) := by
  obtain ⟨p, e, s, m, args, below, meth, c, A, Q, rfl, hx, hb, hml, hown, hts, hK, hA, hNs⟩ := C
  intro H locs ls hP hD hS h
  exact lv_f2d hx hb hd hn (g H locs ls hP hD hS h)
theorem y_dcmp (C : YC l K own cc nL R D tys) {x y : UInt64} {op : CmpOp} (hd : decode cc pc = .ok (.dcmp op, 1)) (g : K k n ws lv (pc + 1) (.int (Op.cmpValue (FP.dcmp x y) op) :: st)) : K k n ws lv pc (.double y :: .double x :: st) := by
  obtain ⟨p, e, s, m, args, below, meth, c, A, Q, rfl, hx, hb, hml, hown, hts, hK, hA, hNs⟩ := C
  intro H locs ls hP hD hS h
  exact lv_dcmp hx hb hd (g H locs ls hP hD hS h)
theorem y_ldcf (C : YC l K own cc nL R D tys) {idx : Nat} {v : UInt32} (hw : Cond.constantFloat own idx v ∈ wsL_law) (hd : decode cc pc = .ok (.ldc idx, 2)) (g : K k n ws lv (pc + 2) (.float v :: st)) : K k n ws lv pc st := by
  obtain ⟨p, e, s, m, args, below, meth, c, A, Q, rfl, hx, hb, hml, hown, hts, hK, hA, hNs⟩ := C
  intro H locs ls hP hD hS h
  exact lv_ldcf hx hb hown (hts _ hw) hd (g H locs ls hP hD hS h)
theorem y_ldc2d (C : YC l K own cc nL R D tys) {idx : Nat} {v : UInt64} (hw : Cond.constantDouble own idx v ∈ wsL_law) (hd : decode cc pc = .ok (.ldc2_w idx, 3)) (g : K k n ws lv (pc + 3) (.double v :: st)) : K k n ws lv pc st := by
  obtain ⟨p, e, s, m, args, below, meth, c, A, Q, rfl, hx, hb, hml, hown, hts, hK, hA, hNs⟩ := C
  intro H locs ls hP hD hS h
  exact lv_ldc2d hx hb hown (hts _ hw) hd (g H locs ls hP hD hS h)
end YFl
/-- a method that answers a float -/
def MF (l : Launch) (y : MethodName) (cc : ByteArray) (nL : Nat) (R : Room) (D : va_G) (tys : List (ClassId × FieldType)) (As : List Value) (wc : va_W) (post : UInt32 → va_W → Prop) : Prop := ∀ sz : Nat, Met l y (.code y cc nL (some .float) :: wsL_law) R (va_Pc As (zPre D tys wc sz)) (va_Qf (fun (r : UInt32) (u : va_W) => post r u) (fun u t => zB D tys wc sz u t) (va_A wc sz)) R.cells R.slots (va_A wc sz)
def MD (l : Launch) (y : MethodName) (cc : ByteArray) (nL : Nat) (R : Room) (D : va_G) (tys : List (ClassId × FieldType)) (As : List Value) (wc : va_W) (post : UInt64 → va_W → Prop) : Prop := ∀ sz : Nat, Met l y (.code y cc nL (some .double) :: wsL_law) R (va_Pc As (zPre D tys wc sz)) (va_Qd (fun (r : UInt64) (u : va_W) => post r u) (fun u t => zB D tys wc sz u t) (va_A wc sz)) R.cells R.slots (va_A wc sz)
theorem MF.of {l : Launch} {y : MethodName} {cc : ByteArray} {nL : Nat} {R : Room} {D : va_G} {tys : List (ClassId × FieldType)} {As : List Value} {wc : va_W} {post : UInt32 → va_W → Prop} (own : String) (hy : y.cls = own ∧ plainName own = true) (hlen : (lg_sl As).length ≤ nL)
    (body : ∀ (K : KT), YC l K own cc nL R D tys → (∀ (r : UInt32) (w : va_W) (lv : List (Nat × Value)) (pc : Nat), decode cc pc = .ok (.freturn, 1) → post r w → K R.cells R.slots w lv pc [.float r]) → K 0 0 wc (lv_args 0 As) 0 []) : MF l y cc nL R D tys As wc post := by
  intro sz
  obtain ⟨rfl, hy⟩ := hy
  refine zY_entry hy hlen (fun K C hret2 => body K C ?_)
  intro r w lv pc hd hp
  refine hret2 w lv pc (some (.float r)) _ rfl ?_
  intro p e s m args below meth c H locs ls hx hb hr hlocks hsz hP hK hD hS
  subst hsz
  exact W.fret hx hb hr (fun t ht hW => ⟨⟨r, w, rfl, hp, by rw [ht]; exact hP, va_K.moved hW.alike hK, hD⟩, hS.F ht⟩) hS.2.2 hd hlocks
theorem MD.of {l : Launch} {y : MethodName} {cc : ByteArray} {nL : Nat} {R : Room} {D : va_G} {tys : List (ClassId × FieldType)} {As : List Value} {wc : va_W} {post : UInt64 → va_W → Prop} (own : String) (hy : y.cls = own ∧ plainName own = true) (hlen : (lg_sl As).length ≤ nL)
    (body : ∀ (K : KT), YC l K own cc nL R D tys → (∀ (r : UInt64) (w : va_W) (lv : List (Nat × Value)) (pc : Nat), decode cc pc = .ok (.dreturn, 1) → post r w → K R.cells R.slots w lv pc [.double r]) → K 0 0 wc (lv_args 0 As) 0 []) : MD l y cc nL R D tys As wc post := by
  intro sz
  obtain ⟨rfl, hy⟩ := hy
  refine zY_entry hy hlen (fun K C hret2 => body K C ?_)
  intro r w lv pc hd hp
  refine hret2 w lv pc (some (.double r)) _ rfl ?_
  intro p e s m args below meth c H locs ls hx hb hr hlocks hsz hP hK hD hS
  subst hsz
  exact W.dret hx hb hr (fun t ht hW => ⟨⟨r, w, rfl, hp, by rw [ht]; exact hP, va_K.moved hW.alike hK, hD⟩, hS.F ht⟩) hS.2.2 hd hlocks
theorem y_mcallf {l : Launch} {K : KT} {own : String} {cc : ByteArray} {nL : Nat} {R : Room} {D : va_G} {tys : List (ClassId × FieldType)} {k n : Nat} {ws : va_W} {lv : List (Nat × Value)} {pc : Nat} {st stk : List Value} {idx : Nat} {y : MethodName} {yc : ByteArray} {ynL yn : Nat} {rm : Room} {wc : va_W} {post : UInt32 → va_W → Prop} {As : List Value} {b ci jb : Nat} {fs : List Value} {T : u_T} {N : Nat} (C : YC l K own cc nL R D tys) (hM : MF l y yc ynL rm D tys (.ref b :: As) wc post) (LK : LKv own idx y yc ynL (some .float) yn) (isC isR : List Nat) (hcut : zCut ws wc (zPick ws isR) isC isR) (hb0 : wc[jb]? = some (b, .inr (ci, fs))) (hcl : vwCl[ci]? = some (y.cls, T, N)) (hd : decode cc pc = .ok (.invokevirtual idx, 3)) (hstk : stk = As.reverse ++ .ref b :: st) (hn : As.length = yn) (hR : rm.frames + 1 ≤ R.frames ∧ 8 + (ynL + 11) + rm.locals ≤ R.locals ∧ rm.cells = 0 ∧ rm.slots = 0 ∧ k ≤ R.cells ∧ n ≤ R.slots ∧ (st.map fun v => v.category).sum ≤ 8)
    (g : ∀ (r : UInt32) (w1 : va_W), post r w1 → ∃ isN ws2, zBack (zPick ws isR) w1 ws2 isN ∧ K k n ws2 lv (pc + 3) (.float r :: st)) : K k n ws lv pc stk := by
  subst hstk
  obtain ⟨p, e, s, m, args, below, meth, c, A, Q, rfl, hx, hb, hml, hown, hts, hK, hA, hNs⟩ := C
  obtain ⟨hC, hRr, hnC, hnd, hdis⟩ := hcut
  obtain ⟨hR1, hR2, hR3, hR4, hR5, hR6, hst⟩ := hR
  intro H locs ls hP hD hS h
  have hPc : va_P D vwCl wc H := zCut.P hC hP
  have hDc := hD.sub (ws' := wc) isC hnC hC
  have hFc := va_free (wc := wc) hD hS hA isC hC
  have hM' := hM H.size
  refine va_callf (va_runV (As := As) (rest := st) ⟨hx, hb, hml, hown, hts⟩ hM' (cwV yn hts (zGoodV LK) rfl rfl rfl ⟨rfl, LK.2.1, LK.2.2.1, LK.2.2.2⟩ ⟨hR1, hR2⟩) ⟨fun a U g mk q => ⟨q.1, q.2.1, q.2.2.1, va_K.moved (u := U) (U := U.calling g mk a) (Vm.Alike.refl U.vm) q.2.2.2.1, q.2.2.2.2.1, ⟨zN_same (u := U) (U := U.calling g mk a) rfl q.2.2.2.2.2.1, zS.same (u := U) (U := U.calling g mk a) rfl q.2.2.2.2.2.2⟩⟩, va_recv hK hPc (ci := ci) (q0 := jb) hcl hb0, fun U hU hW => ⟨rfl, by rw [hU], by rw [hU]; exact hPc, va_K.moved hW.alike hK, hDc.weaken (fun _ _ _ _ => trivial), ⟨zN_warm hW hNs.1, by rw [hU]; exact zS.warm hW (zS.kept hNs.2 hS.2.1 hS.1 (fun q h => hFc q h))⟩⟩⟩ rfl hn h.1 rfl (lv_room hst) hd ⟨by omega, by omega⟩) hS (fun q _ h => hFc q h) hFc (fun r u t H1 locs1 ht hvm hw hB hz1 hk1 hS1 => ?_)
  obtain ⟨isN, ws2, ⟨hN, hnN⟩, g⟩ := g r u hw
  obtain ⟨hP1, hK1, hD1⟩ := hB
  rw [ht] at hP1
  obtain ⟨hP2, hD2⟩ := va_join (wr := zPick ws isR) (w1 := u) hP hD isC isR hC hRr hnd hdis hk1 hFc hP1 hD1
  rw [hR3, hR4]
  exact g H1 locs1 ls (zCut.P hN hP2) (hD2.sub (ws' := ws2) isN hnN hN) hS1 h
theorem y_mcalld {l : Launch} {K : KT} {own : String} {cc : ByteArray} {nL : Nat} {R : Room} {D : va_G} {tys : List (ClassId × FieldType)} {k n : Nat} {ws : va_W} {lv : List (Nat × Value)} {pc : Nat} {st stk : List Value} {idx : Nat} {y : MethodName} {yc : ByteArray} {ynL yn : Nat} {rm : Room} {wc : va_W} {post : UInt64 → va_W → Prop} {As : List Value} {b ci jb : Nat} {fs : List Value} {T : u_T} {N : Nat} (C : YC l K own cc nL R D tys) (hM : MD l y yc ynL rm D tys (.ref b :: As) wc post) (LK : LKv own idx y yc ynL (some .double) yn) (isC isR : List Nat) (hcut : zCut ws wc (zPick ws isR) isC isR) (hb0 : wc[jb]? = some (b, .inr (ci, fs))) (hcl : vwCl[ci]? = some (y.cls, T, N)) (hd : decode cc pc = .ok (.invokevirtual idx, 3)) (hstk : stk = As.reverse ++ .ref b :: st) (hn : As.length = yn) (hR : rm.frames + 1 ≤ R.frames ∧ 8 + (ynL + 11) + rm.locals ≤ R.locals ∧ rm.cells = 0 ∧ rm.slots = 0 ∧ k ≤ R.cells ∧ n ≤ R.slots ∧ (st.map fun v => v.category).sum ≤ 8)
    (g : ∀ (r : UInt64) (w1 : va_W), post r w1 → ∃ isN ws2, zBack (zPick ws isR) w1 ws2 isN ∧ K k n ws2 lv (pc + 3) (.double r :: st)) : K k n ws lv pc stk := by
  subst hstk
  obtain ⟨p, e, s, m, args, below, meth, c, A, Q, rfl, hx, hb, hml, hown, hts, hK, hA, hNs⟩ := C
  obtain ⟨hC, hRr, hnC, hnd, hdis⟩ := hcut
  obtain ⟨hR1, hR2, hR3, hR4, hR5, hR6, hst⟩ := hR
  intro H locs ls hP hD hS h
  have hPc : va_P D vwCl wc H := zCut.P hC hP
  have hDc := hD.sub (ws' := wc) isC hnC hC
  have hFc := va_free (wc := wc) hD hS hA isC hC
  have hM' := hM H.size
  refine va_calld (va_runV (As := As) (rest := st) ⟨hx, hb, hml, hown, hts⟩ hM' (cwV yn hts (zGoodV LK) rfl rfl rfl ⟨rfl, LK.2.1, LK.2.2.1, LK.2.2.2⟩ ⟨hR1, hR2⟩) ⟨fun a U g mk q => ⟨q.1, q.2.1, q.2.2.1, va_K.moved (u := U) (U := U.calling g mk a) (Vm.Alike.refl U.vm) q.2.2.2.1, q.2.2.2.2.1, ⟨zN_same (u := U) (U := U.calling g mk a) rfl q.2.2.2.2.2.1, zS.same (u := U) (U := U.calling g mk a) rfl q.2.2.2.2.2.2⟩⟩, va_recv hK hPc (ci := ci) (q0 := jb) hcl hb0, fun U hU hW => ⟨rfl, by rw [hU], by rw [hU]; exact hPc, va_K.moved hW.alike hK, hDc.weaken (fun _ _ _ _ => trivial), ⟨zN_warm hW hNs.1, by rw [hU]; exact zS.warm hW (zS.kept hNs.2 hS.2.1 hS.1 (fun q h => hFc q h))⟩⟩⟩ rfl hn h.1 rfl (lv_room hst) hd ⟨by omega, by omega⟩) hS (fun q _ h => hFc q h) hFc (fun r u t H1 locs1 ht hvm hw hB hz1 hk1 hS1 => ?_)
  obtain ⟨isN, ws2, ⟨hN, hnN⟩, g⟩ := g r u hw
  obtain ⟨hP1, hK1, hD1⟩ := hB
  rw [ht] at hP1
  obtain ⟨hP2, hD2⟩ := va_join (wr := zPick ws isR) (w1 := u) hP hD isC isR hC hRr hnd hdis hk1 hFc hP1 hD1
  rw [hR3, hR4]
  exact g H1 locs1 ls (zCut.P hN hP2) (hD2.sub (ws' := ws2) isN hnN hN) hS1 h
/-! what they answer -/
def awG (u : Int → Int) (q : Int) : Int := if u 3 = 1 then u 4 + (u 0 - q) else u 4 - (u 0 - q)
def awZ (u : Int → Int) (q : Int) : UInt32 := if 0 ≤ q ∧ q ≤ 4 then FP.fdiv (FP.i2f (zI (u 5 * (u 0 - q)))) (FP.i2f (zI (awG u q))) else 3212836864
noncomputable def clZ (u : Int → Int) (row : Int) : UInt64 := if 0 ≤ row ∧ row < 8 then FP.ddiv (FP.i2d (zI (rgtZ u row))) 4629700416936869888 else 13830554455654793216
theorem awG_r {u : Int → Int} {q : Int} (h : UK u) (hq : 0 ≤ q ∧ q ≤ 4) : 1 ≤ awG u q ∧ awG u q < 200 := by
  have := h.s
  unfold awG
  split <;> omega
theorem awZ_ne {u : Int → Int} {q : Int} (h : UK u) : Jvm.FP.Core.val32 (awZ u q) ≠ .nan := by
  unfold awZ
  split
  · exact away_ne (awG_r h (by assumption))
  · intro z
    have := (Jvm.FP.Core.fIsNaN_iff _).mpr z
    rw [m1_ne] at this
    cases this
theorem clZ_ne (u : Int → Int) (row : Int) : Jvm.FP.Core.val64 (clZ u row) ≠ .nan := by
  have hr := zcnt_r (fun k => seeR u row k = zp u row k) (show (0 : Int) ≤ 32 by omega)
  unfold clZ
  split
  · intro z
    have h1 := (Jvm.FP.Core.dIsNaN_iff _).mpr z
    have h2 := clr_ne2 (rgtZ u row).toNat (by unfold rgtZ; omega)
    have e : Int32.ofNat (rgtZ u row).toNat = zI (rgtZ u row) := by
      have h3 := zI_nat (rgtZ u row).toNat
      rw [Int.toNat_of_nonneg (by unfold rgtZ; omega)] at h3
      exact h3.symm
    rw [e] at h2
    rw [h2] at h1
    cases h1
  · intro z
    have := (Jvm.FP.Core.dIsNaN_iff _).mpr z
    rw [m1d_ne] at this
    cases this
theorem clr_v {r : Int} (h : 0 ≤ r ∧ r ≤ 32) : vf_n64 (FP.ddiv (FP.i2d (zI r)) 4629700416936869888) := by
  have h2 := clr_ne r.toNat (by omega)
  have h3 := zI_nat r.toNat
  rw [Int.toNat_of_nonneg (by omega)] at h3
  rw [h3]
  exact h2
