set_option maxHeartbeats 4000000 in
set_option maxRecDepth 100000 in
theorem m_X5_isRow {l : Launch} {D : va_G} {cA cB : ClassId} {x : Int} (hx : zR x) : MI l yX5_isRow cX5_isRow 1 .boolean { frames := 0, cells := 0, slots := 0, locals := 0 } D (zT cA cB) [.int (zI x)] [] (fun r w => w = [] ∧ ((r = 1 ∧ (0 ≤ x ∧ x < 8)) ∨ (r = 0 ∧ ¬ (0 ≤ x ∧ x < 8)))) := by
  refine MI.of RX5 ⟨rfl, by decide +kernel⟩ (Or.inr rfl) (Nat.le_of_ble_eq_true rfl) (fun _ r w h => by rcases h.2 with h | h; exact Or.inr h.1; exact Or.inl h.1) ?_
  intro K C hret
  change K 0 0 _ [(0, .int (zI x))] 0 []
  have hx1 := hx.1
  have hx2 := hx.2
  refine y_iload_n C 0 dX5_isRow_0 rfl ?_
  refine y_if_lt C 14 dX5_isRow_1 (by decide) ⟨by omega, by omega⟩ (fun c_1 => ?_) (fun c_1 => ?_)
  · refine y_iconst C dX5_isRow_14 ?_
    refine hret _ _ _ _ dX5_isRow_15 ⟨rfl, ?_⟩
    show ((0 = 1 ∧ (0 ≤ x ∧ x < 8)) ∨ (0 = 0 ∧ ¬ (0 ≤ x ∧ x < 8)))
    omega
  · refine y_iload_n C 0 dX5_isRow_4 rfl ?_
    refine y_bipush C dX5_isRow_5 (by decide +kernel) ?_
    refine y_icmp_ge C 14 dX5_isRow_7 (by decide) ⟨⟨by omega, by omega⟩, ⟨by omega, by omega⟩⟩ (fun c_2 => ?_) (fun c_2 => ?_)
    · refine y_iconst C dX5_isRow_14 ?_
      refine hret _ _ _ _ dX5_isRow_15 ⟨rfl, ?_⟩
      show ((0 = 1 ∧ (0 ≤ x ∧ x < 8)) ∨ (0 = 0 ∧ ¬ (0 ≤ x ∧ x < 8)))
      omega
    · refine y_iconst C dX5_isRow_10 ?_
      refine y_goto C 15 dX5_isRow_11 (by decide) ?_
      refine hret _ _ _ _ dX5_isRow_15 ⟨rfl, ?_⟩
      show ((1 = 1 ∧ (0 ≤ x ∧ x < 8)) ∨ (1 = 0 ∧ ¬ (0 ≤ x ∧ x < 8)))
      omega

set_option maxHeartbeats 4000000 in
set_option maxRecDepth 100000 in
theorem m_X5_isColumn {l : Launch} {D : va_G} {cA cB : ClassId} {x : Int} (hx : zR x) : MI l yX5_isColumn cX5_isColumn 1 .boolean { frames := 0, cells := 0, slots := 0, locals := 0 } D (zT cA cB) [.int (zI x)] [] (fun r w => w = [] ∧ ((r = 1 ∧ (0 ≤ x ∧ x < 32)) ∨ (r = 0 ∧ ¬ (0 ≤ x ∧ x < 32)))) := by
  refine MI.of RX5 ⟨rfl, by decide +kernel⟩ (Or.inr rfl) (Nat.le_of_ble_eq_true rfl) (fun _ r w h => by rcases h.2 with h | h; exact Or.inr h.1; exact Or.inl h.1) ?_
  intro K C hret
  change K 0 0 _ [(0, .int (zI x))] 0 []
  have hx1 := hx.1
  have hx2 := hx.2
  refine y_iload_n C 0 dX5_isColumn_0 rfl ?_
  refine y_if_lt C 14 dX5_isColumn_1 (by decide) ⟨by omega, by omega⟩ (fun c_1 => ?_) (fun c_1 => ?_)
  · refine y_iconst C dX5_isColumn_14 ?_
    refine hret _ _ _ _ dX5_isColumn_15 ⟨rfl, ?_⟩
    show ((0 = 1 ∧ (0 ≤ x ∧ x < 32)) ∨ (0 = 0 ∧ ¬ (0 ≤ x ∧ x < 32)))
    omega
  · refine y_iload_n C 0 dX5_isColumn_4 rfl ?_
    refine y_bipush C dX5_isColumn_5 (by decide +kernel) ?_
    refine y_icmp_ge C 14 dX5_isColumn_7 (by decide) ⟨⟨by omega, by omega⟩, ⟨by omega, by omega⟩⟩ (fun c_2 => ?_) (fun c_2 => ?_)
    · refine y_iconst C dX5_isColumn_14 ?_
      refine hret _ _ _ _ dX5_isColumn_15 ⟨rfl, ?_⟩
      show ((0 = 1 ∧ (0 ≤ x ∧ x < 32)) ∨ (0 = 0 ∧ ¬ (0 ≤ x ∧ x < 32)))
      omega
    · refine y_iconst C dX5_isColumn_10 ?_
      refine y_goto C 15 dX5_isColumn_11 (by decide) ?_
      refine hret _ _ _ _ dX5_isColumn_15 ⟨rfl, ?_⟩
      show ((1 = 1 ∧ (0 ≤ x ∧ x < 32)) ∨ (1 = 0 ∧ ¬ (0 ≤ x ∧ x < 32)))
      omega

set_option maxHeartbeats 4000000 in
set_option maxRecDepth 100000 in
theorem m_X5_isPlane {l : Launch} {D : va_G} {cA cB : ClassId} {x : Int} (hx : zR x) : MI l yX5_isPlane cX5_isPlane 1 .boolean { frames := 0, cells := 0, slots := 0, locals := 0 } D (zT cA cB) [.int (zI x)] [] (fun r w => w = [] ∧ ((r = 1 ∧ (0 ≤ x ∧ x < 5)) ∨ (r = 0 ∧ ¬ (0 ≤ x ∧ x < 5)))) := by
  refine MI.of RX5 ⟨rfl, by decide +kernel⟩ (Or.inr rfl) (Nat.le_of_ble_eq_true rfl) (fun _ r w h => by rcases h.2 with h | h; exact Or.inr h.1; exact Or.inl h.1) ?_
  intro K C hret
  change K 0 0 _ [(0, .int (zI x))] 0 []
  have hx1 := hx.1
  have hx2 := hx.2
  refine y_iload_n C 0 dX5_isPlane_0 rfl ?_
  refine y_if_lt C 13 dX5_isPlane_1 (by decide) ⟨by omega, by omega⟩ (fun c_1 => ?_) (fun c_1 => ?_)
  · refine y_iconst C dX5_isPlane_13 ?_
    refine hret _ _ _ _ dX5_isPlane_14 ⟨rfl, ?_⟩
    show ((0 = 1 ∧ (0 ≤ x ∧ x < 5)) ∨ (0 = 0 ∧ ¬ (0 ≤ x ∧ x < 5)))
    omega
  · refine y_iload_n C 0 dX5_isPlane_4 rfl ?_
    refine y_iconst C dX5_isPlane_5 ?_
    refine y_icmp_ge C 13 dX5_isPlane_6 (by decide) ⟨⟨by omega, by omega⟩, ⟨by omega, by omega⟩⟩ (fun c_2 => ?_) (fun c_2 => ?_)
    · refine y_iconst C dX5_isPlane_13 ?_
      refine hret _ _ _ _ dX5_isPlane_14 ⟨rfl, ?_⟩
      show ((0 = 1 ∧ (0 ≤ x ∧ x < 5)) ∨ (0 = 0 ∧ ¬ (0 ≤ x ∧ x < 5)))
      omega
    · refine y_iconst C dX5_isPlane_9 ?_
      refine y_goto C 14 dX5_isPlane_10 (by decide) ?_
      refine hret _ _ _ _ dX5_isPlane_14 ⟨rfl, ?_⟩
      show ((1 = 1 ∧ (0 ≤ x ∧ x < 5)) ∨ (1 = 0 ∧ ¬ (0 ≤ x ∧ x < 5)))
      omega

set_option maxHeartbeats 4000000 in
set_option maxRecDepth 100000 in
theorem m_X5_isDot {l : Launch} {D : va_G} {cA cB : ClassId} {x : Int} (hx : zR x) : MI l yX5_isDot cX5_isDot 1 .boolean { frames := 0, cells := 0, slots := 0, locals := 0 } D (zT cA cB) [.int (zI x)] [] (fun r w => w = [] ∧ ((r = 1 ∧ (0 ≤ x ∧ x < 8)) ∨ (r = 0 ∧ ¬ (0 ≤ x ∧ x < 8)))) := by
  refine MI.of RX5 ⟨rfl, by decide +kernel⟩ (Or.inr rfl) (Nat.le_of_ble_eq_true rfl) (fun _ r w h => by rcases h.2 with h | h; exact Or.inr h.1; exact Or.inl h.1) ?_
  intro K C hret
  change K 0 0 _ [(0, .int (zI x))] 0 []
  have hx1 := hx.1
  have hx2 := hx.2
  refine y_iload_n C 0 dX5_isDot_0 rfl ?_
  refine y_if_lt C 14 dX5_isDot_1 (by decide) ⟨by omega, by omega⟩ (fun c_1 => ?_) (fun c_1 => ?_)
  · refine y_iconst C dX5_isDot_14 ?_
    refine hret _ _ _ _ dX5_isDot_15 ⟨rfl, ?_⟩
    show ((0 = 1 ∧ (0 ≤ x ∧ x < 8)) ∨ (0 = 0 ∧ ¬ (0 ≤ x ∧ x < 8)))
    omega
  · refine y_iload_n C 0 dX5_isDot_4 rfl ?_
    refine y_bipush C dX5_isDot_5 (by decide +kernel) ?_
    refine y_icmp_ge C 14 dX5_isDot_7 (by decide) ⟨⟨by omega, by omega⟩, ⟨by omega, by omega⟩⟩ (fun c_2 => ?_) (fun c_2 => ?_)
    · refine y_iconst C dX5_isDot_14 ?_
      refine hret _ _ _ _ dX5_isDot_15 ⟨rfl, ?_⟩
      show ((0 = 1 ∧ (0 ≤ x ∧ x < 8)) ∨ (0 = 0 ∧ ¬ (0 ≤ x ∧ x < 8)))
      omega
    · refine y_iconst C dX5_isDot_10 ?_
      refine y_goto C 15 dX5_isDot_11 (by decide) ?_
      refine hret _ _ _ _ dX5_isDot_15 ⟨rfl, ?_⟩
      show ((1 = 1 ∧ (0 ≤ x ∧ x < 8)) ∨ (1 = 0 ∧ ¬ (0 ≤ x ∧ x < 8)))
      omega

set_option maxHeartbeats 4000000 in
set_option maxRecDepth 100000 in
theorem m_X5_placeOf {l : Launch} {D : va_G} {cA cB : ClassId} {x y : Int}  : MI l yX5_placeOf cX5_placeOf 2 .int { frames := 0, cells := 0, slots := 0, locals := 0 } D (zT cA cB) [.int (zI x), .int (zI y)] [] (fun r w => w = [] ∧ r = x * 32 + y) := by
  refine MI.of RX5 ⟨rfl, by decide +kernel⟩ (Or.inl rfl) (Nat.le_of_ble_eq_true rfl) (fun h => by cases h) ?_
  intro K C hret
  change K 0 0 _ [(0, .int (zI x)), (1, .int (zI y))] 0 []
  refine y_iload_n C 0 dX5_placeOf_0 rfl ?_
  refine y_bipush C dX5_placeOf_1 (by decide +kernel) ?_
  refine y_imul C dX5_placeOf_3 ?_
  refine y_iload_n C 1 dX5_placeOf_4 rfl ?_
  refine y_iadd C dX5_placeOf_5 ?_
  refine hret _ _ _ _ dX5_placeOf_6 ⟨rfl, ?_⟩
  show ((x * 32) + y) = x * 32 + y
  omega

set_option maxHeartbeats 4000000 in
set_option maxRecDepth 100000 in
theorem m_J7_fill_53178 {l : Launch} {D : va_G} {cA cB : ClassId} {a N : Nat} {g : Int → Int} {v : Int} (hN : N ≤ 1000) (hv : zR v) : MV l yJ7_fill_53178 cJ7_fill_53178 4 { frames := 0, cells := 0, slots := 0, locals := 0 } D (zT cA cB) [.ref a, .int (zI v)] [cI cA a N g] (fun w => ∃ (g2 : Int → Int), w = [cI cA a N g2] ∧ (∀ k : Int, 0 ≤ k → k < (N : Int) → g2 k = v)) := by
  refine MV.of RJ7 ⟨rfl, by decide +kernel⟩ (Nat.le_of_ble_eq_true rfl) ?_
  intro K C hret
  change K 0 0 _ [(0, .ref a), (1, .int (zI v))] 0 []
  refine y_iconst C dJ7_fill_53178_0 ?_
  refine y_istore_n C [(2, .int (zI 0)), (0, .ref a), (1, .int (zI v))] dJ7_fill_53178_1 (by decide) rfl ?_
  refine y_aload_n C 1 dJ7_fill_53178_2 rfl ?_
  refine y_alen C 0 0 dJ7_fill_53178_3 rfl rfl ?_
  refine y_istore_n C [(3, .int (zI N)), (2, .int (zI 0)), (0, .ref a), (1, .int (zI v))] dJ7_fill_53178_4 (by decide) rfl ?_
  refine y_lsub C [2, 3, 1, 0] (lv' := [(0, .ref a), (1, .int (zI v)), (2, .int (zI 0)), (3, .int (zI N))]) rfl ?_
  suffices hL5 : ∀ (fu : Nat) (i : Int) (g1 : Int → Int), (0 ≤ i ∧ i ≤ (N : Int)) → (∀ k : Int, 0 ≤ k → k < i → g1 k = v) → ((N : Int) - i).toNat < fu → K 0 0 [cI cA a N g1] [(0, .ref a), (1, .int (zI v)), (2, .int (zI i)), (3, .int (zI N))] 5 [] from hL5 _ 0 g (by omega) (by intro k h1 h2; omega) (Nat.lt_succ_self _)
  intro f5
  induction f5 with
  | zero => exact fun _ _ _ _ hf => absurd hf (Nat.not_lt_zero _)
  | succ f5 ih5 =>
    intro i g1 hi hg hf5
    refine y_iload_n C 2 dJ7_fill_53178_5 rfl ?_
    refine y_iload_n C 3 dJ7_fill_53178_6 rfl ?_
    refine y_icmp_ge C 20 dJ7_fill_53178_7 (by decide) ⟨⟨by omega, by omega⟩, ⟨by omega, by omega⟩⟩ (fun c_1 => ?_) (fun c_1 => ?_)
    · refine hret _ _ _ dJ7_fill_53178_20 ⟨g1, rfl, ?_⟩
      show (∀ k : Int, 0 ≤ k → k < (N : Int) → g1 k = v)
      exact fun k h1 h2 => hg k h1 (by omega)
    · refine y_aload_n C 0 dJ7_fill_53178_10 rfl ?_
      refine y_iload_n C 2 dJ7_fill_53178_11 rfl ?_
      refine y_iload_n C 1 dJ7_fill_53178_12 rfl ?_
      refine y_iast C 0 0 [cI cA a N (zU g1 i v)] dJ7_fill_53178_13 rfl rfl ⟨by omega, by omega, by omega⟩ rfl ?_
      refine y_iinc C 2 [(2, .int (zI (i + 1))), (0, .ref a), (1, .int (zI v)), (3, .int (zI N))] dJ7_fill_53178_14 rfl (by decide) rfl ?_
      refine y_goto C 5 dJ7_fill_53178_17 (by decide) ?_
      refine y_lsub C [1, 2, 0, 3] (lv' := [(0, .ref a), (1, .int (zI v)), (2, .int (zI (i + 1))), (3, .int (zI N))]) rfl ?_
      exact ih5 (i + 1) (zU g1 i v) (by omega) (by exact zU_ext (f := fun _ => v) hg rfl) (by omega)
