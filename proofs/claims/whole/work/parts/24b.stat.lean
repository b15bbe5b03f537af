/-! ===== the static rows: to read them, to copy them ===== -/
def ZRd (K : KT) (cc : ByteArray) (a : Nat) (xs : Int → Int) : Prop := ∀ (k n : Nat) (ws : va_W) (lv : List (Nat × Value)) (pc : Nat) (st : List Value) (i : Int), decode cc pc = .ok (.iaload, 1) → 0 ≤ i → i < 6 → K k n ws lv (pc + 1) (.int (zI (xs i)) :: st) → K k n ws lv pc (.int (zI i) :: .ref a :: st)
def zSf (q : List Int) : Int → Int := fun i => q.getD i.toNat 0
theorem y_gets {l : Launch} {K : KT} {own : String} {cc : ByteArray} {nL : Nat} {R : Room} {D : va_G} {tys : List (ClassId × FieldType)} {k n : Nat} {ws : va_W} {lv : List (Nat × Value)} {pc : Nat} {st : List Value} (C : YC l K own cc nL R D tys) {idx : Nat} {nm : String} {vs : List Int} (hq : (nm, vs) ∈ zSt) (hw : Cond.fieldLink own idx RX5 nm "[I" ∈ wsL_law) (hd : decode cc pc = .ok (.getstatic idx, 3)) (g : ∀ a : Nat, ZRd K cc a (zSf vs) → K k n ws lv (pc + 3) (.ref a :: st)) : K k n ws lv pc st := by
  obtain ⟨p, e, s, m, args, below, meth, c, A, Q, rfl, hx, hb, hml, hown, hts, hK, hA, hNs⟩ := C
  obtain ⟨a, h1, h2, h3, h4⟩ := hNs.2.2 (nm, vs) hq
  intro H locs ls hP hD hS h
  refine va_gets hx hb h1 hS hown (hts _ hw) (fun _ z => z) hd (g a ?_ H locs ls hP hD hS h)
  intro k n ws lv pc st i hd h0 h5 g H locs ls hP hD hS h
  refine va_sld hx hb h2 h3 h4 hS (zI_in h0 (by omega) (by omega)) hd ?_
  have e : zSv vs (zI i).toNatClampNeg = zI (zSf vs i) := by
    rw [zI_cl h0 (by omega)]
    rfl
  show W _ _ _ _ _ _ _ _ _ _ _ _ _ _ _ (F0 _ _ _ (.int (zSv vs (zI i).toNatClampNeg) :: _))
  rw [e]
  exact g H locs ls hP hD hS h
theorem zSf_L {w : Int} (h : 0 ≤ w ∧ w ≤ 5) : (w = 0 ∧ zSf [6, 2, 0, 0, 20, 10] w = 6) ∨ (w = 1 ∧ zSf [6, 2, 0, 0, 20, 10] w = 2) ∨ (w = 2 ∧ zSf [6, 2, 0, 0, 20, 10] w = 0) ∨ (w = 3 ∧ zSf [6, 2, 0, 0, 20, 10] w = 0) ∨ (w = 4 ∧ zSf [6, 2, 0, 0, 20, 10] w = 20) ∨ (w = 5 ∧ zSf [6, 2, 0, 0, 20, 10] w = 10) := by
  rcases (show w = 0 ∨ w = 1 ∨ w = 2 ∨ w = 3 ∨ w = 4 ∨ w = 5 from by omega) with rfl | rfl | rfl | rfl | rfl | rfl <;> decide
theorem zSf_G {w : Int} (h : 0 ≤ w ∧ w ≤ 5) : (w = 0 ∧ zSf [16, 8, 3, 1, 99, 400] w = 16) ∨ (w = 1 ∧ zSf [16, 8, 3, 1, 99, 400] w = 8) ∨ (w = 2 ∧ zSf [16, 8, 3, 1, 99, 400] w = 3) ∨ (w = 3 ∧ zSf [16, 8, 3, 1, 99, 400] w = 1) ∨ (w = 4 ∧ zSf [16, 8, 3, 1, 99, 400] w = 99) ∨ (w = 5 ∧ zSf [16, 8, 3, 1, 99, 400] w = 400) := by
  rcases (show w = 0 ∨ w = 1 ∨ w = 2 ∨ w = 3 ∨ w = 4 ∨ w = 5 from by omega) with rfl | rfl | rfl | rfl | rfl | rfl <;> decide
theorem RS_at {u S : Int → Int} (h : RS u S) {w : Int} (hw : 0 ≤ w ∧ w ≤ 5) : S w = u w := by
  obtain ⟨e0, e1, e2, e3, e4, e5⟩ := h.1
  rcases (show w = 0 ∨ w = 1 ∨ w = 2 ∨ w = 3 ∨ w = 4 ∨ w = 5 from by omega) with rfl | rfl | rfl | rfl | rfl | rfl
  · exact e0
  · exact e1
  · exact e2
  · exact e3
  · exact e4
  · exact e5
theorem Rel_print {u S P Q M T p d m P2 Q2 M2 : Int → Int} {len lot row x : Int} (h : Rel u S P Q M T len lot) (hr : 0 ≤ row ∧ row < 8)
    (e1 : ∀ k : Int, 0 ≤ k → k < 32 → p k = zp u row k) (e2 : ∀ k : Int, 0 ≤ k → k < 32 → d k = (prtZ u row).1 k) (e4 : ∀ k : Int, 0 ≤ k → k < 32 → 0 ≤ d k ∧ d k ≤ 7) (e3 : ∀ k : Int, 0 ≤ k → k < 32 → m k = -4)
    (f1 : ∀ k : Int, P2 k = putR p P row k) (f2 : ∀ k : Int, Q2 k = putR d Q row k) (f3 : ∀ k : Int, M2 k = putR m M row k) (hx : x = (prtZ u row).2.2) (hx2 : 0 ≤ x ∧ x ≤ 9999) : Rel (printU u row) S P2 Q2 M2 T len x := by
  have h1 : Rel (putU u (zp u row) (prtZ u row).1 (fun _ => 0) row) S P2 Q2 M2 T len lot :=
    Rel_put (m := fun _ => -4) h hr (fun k a b => (zp_of h.P hr (by omega) (by omega)).2) (fun k a b => by rw [← e2 k a b]; exact e4 k a b) (fun k a b => Or.inl ⟨rfl, rfl⟩) (fun k => (f1 k).trans (putR_congr e1)) (fun k => (f2 k).trans (putR_congr e2)) (fun k => (f3 k).trans (putR_congr e3))
  have h2 := Rel_lot h1 hx2
  unfold printU
  rw [← hx]
  exact h2
theorem prtZ_of {u p d T : Int → Int} {row len col lot : Int} (hpr : ∀ k : Int, 0 ≤ k → k < 32 → p k < u 0) (hp : ∀ k : Int, 0 ≤ k → k < 32 → p k = zp u row k) (hd : ∀ k : Int, 0 ≤ k → k < 32 → d k = zd u row k) (hT : RT u T len) (hc : col = u 1) (hl : lot = u 6) : (∀ k : Int, 0 ≤ k → k < 32 → (prZ (u 0) p d T len col lot 32).1 k = (prtZ u row).1 k) ∧ (prZ (u 0) p d T len col lot 32).2 = (prtZ u row).2 := by
  have h := prZ_congr (per := u 0) (len := len) (col := col) (lot := lot) (T := T) (T' := fun j => u (8 + j)) hpr hp hd (fun k a b => hT.2.2.2.2 k a b) 32 (Nat.le_refl _)
  unfold prtZ
  rw [← hc, ← hl, ← hT.1]
  exact ⟨h.1, h.2.1⟩
