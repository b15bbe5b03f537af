set_option maxHeartbeats 4000000 in
set_option maxRecDepth 100000 in
theorem m_X5_isRow {l : Launch} {D : va_G} {cA cB : ClassId} {x : Int} (hx : zR x) : MI l yX5_isRow cX5_isRow 1 .boolean { frames := 0, cells := 0, slots := 0, locals := 0 } D (zT cA cB) [.int (zI x)] [] (fun r w => w = [] ∧ ((r = 1 ∧ (0 ≤ x ∧ x < 8)) ∨ (r = 0 ∧ ¬ (0 ≤ x ∧ x < 8)))) := by
  refine MI.of RX5 ⟨rfl, by decide +kernel⟩ (Or.inr rfl) (Nat.le_of_ble_eq_true rfl) (fun _ r w h => by rcases h.2 with h | h; exact Or.inr h.1; exact Or.inl h.1) ?_
  intro K C hret
  change K 0 0 _ [(0, .int (zI x))] 0 []
  have hx1 := hx.1
  have hx2 := hx.2
  refine y_iload_n C 0 dX5_isRow_0 rfl ?_
  refine y_if_lt C 14 dX5_isRow_1 (by decide) ⟨by omega, by omega⟩ (fun c_1 => ?_) (fun c_1 => ?_)
  · refine y_iconst C dX5_isRow_14 ?_
    refine hret _ _ _ _ dX5_isRow_15 ⟨rfl, ?_⟩
    show ((0 = 1 ∧ (0 ≤ x ∧ x < 8)) ∨ (0 = 0 ∧ ¬ (0 ≤ x ∧ x < 8)))
    omega
  · refine y_iload_n C 0 dX5_isRow_4 rfl ?_
    refine y_bipush C dX5_isRow_5 (by decide +kernel) ?_
    refine y_icmp_ge C 14 dX5_isRow_7 (by decide) ⟨⟨by omega, by omega⟩, ⟨by omega, by omega⟩⟩ (fun c_2 => ?_) (fun c_2 => ?_)
    · refine y_iconst C dX5_isRow_14 ?_
      refine hret _ _ _ _ dX5_isRow_15 ⟨rfl, ?_⟩
      show ((0 = 1 ∧ (0 ≤ x ∧ x < 8)) ∨ (0 = 0 ∧ ¬ (0 ≤ x ∧ x < 8)))
      omega
    · refine y_iconst C dX5_isRow_10 ?_
      refine y_goto C 15 dX5_isRow_11 (by decide) ?_
      refine hret _ _ _ _ dX5_isRow_15 ⟨rfl, ?_⟩
      show ((1 = 1 ∧ (0 ≤ x ∧ x < 8)) ∨ (1 = 0 ∧ ¬ (0 ≤ x ∧ x < 8)))
      omega

set_option maxHeartbeats 4000000 in
set_option maxRecDepth 100000 in
theorem m_X5_isColumn {l : Launch} {D : va_G} {cA cB : ClassId} {x : Int} (hx : zR x) : MI l yX5_isColumn cX5_isColumn 1 .boolean { frames := 0, cells := 0, slots := 0, locals := 0 } D (zT cA cB) [.int (zI x)] [] (fun r w => w = [] ∧ ((r = 1 ∧ (0 ≤ x ∧ x < 32)) ∨ (r = 0 ∧ ¬ (0 ≤ x ∧ x < 32)))) := by
  refine MI.of RX5 ⟨rfl, by decide +kernel⟩ (Or.inr rfl) (Nat.le_of_ble_eq_true rfl) (fun _ r w h => by rcases h.2 with h | h; exact Or.inr h.1; exact Or.inl h.1) ?_
  intro K C hret
  change K 0 0 _ [(0, .int (zI x))] 0 []
  have hx1 := hx.1
  have hx2 := hx.2
  refine y_iload_n C 0 dX5_isColumn_0 rfl ?_
  refine y_if_lt C 14 dX5_isColumn_1 (by decide) ⟨by omega, by omega⟩ (fun c_1 => ?_) (fun c_1 => ?_)
  · refine y_iconst C dX5_isColumn_14 ?_
    refine hret _ _ _ _ dX5_isColumn_15 ⟨rfl, ?_⟩
    show ((0 = 1 ∧ (0 ≤ x ∧ x < 32)) ∨ (0 = 0 ∧ ¬ (0 ≤ x ∧ x < 32)))
    omega
  · refine y_iload_n C 0 dX5_isColumn_4 rfl ?_
    refine y_bipush C dX5_isColumn_5 (by decide +kernel) ?_
    refine y_icmp_ge C 14 dX5_isColumn_7 (by decide) ⟨⟨by omega, by omega⟩, ⟨by omega, by omega⟩⟩ (fun c_2 => ?_) (fun c_2 => ?_)
    · refine y_iconst C dX5_isColumn_14 ?_
      refine hret _ _ _ _ dX5_isColumn_15 ⟨rfl, ?_⟩
      show ((0 = 1 ∧ (0 ≤ x ∧ x < 32)) ∨ (0 = 0 ∧ ¬ (0 ≤ x ∧ x < 32)))
      omega
    · refine y_iconst C dX5_isColumn_10 ?_
      refine y_goto C 15 dX5_isColumn_11 (by decide) ?_
      refine hret _ _ _ _ dX5_isColumn_15 ⟨rfl, ?_⟩
      show ((1 = 1 ∧ (0 ≤ x ∧ x < 32)) ∨ (1 = 0 ∧ ¬ (0 ≤ x ∧ x < 32)))
      omega

set_option maxHeartbeats 4000000 in
set_option maxRecDepth 100000 in
theorem m_X5_isPlane {l : Launch} {D : va_G} {cA cB : ClassId} {x : Int} (hx : zR x) : MI l yX5_isPlane cX5_isPlane 1 .boolean { frames := 0, cells := 0, slots := 0, locals := 0 } D (zT cA cB) [.int (zI x)] [] (fun r w => w = [] ∧ ((r = 1 ∧ (0 ≤ x ∧ x < 5)) ∨ (r = 0 ∧ ¬ (0 ≤ x ∧ x < 5)))) := by
  refine MI.of RX5 ⟨rfl, by decide +kernel⟩ (Or.inr rfl) (Nat.le_of_ble_eq_true rfl) (fun _ r w h => by rcases h.2 with h | h; exact Or.inr h.1; exact Or.inl h.1) ?_
  intro K C hret
  change K 0 0 _ [(0, .int (zI x))] 0 []
  have hx1 := hx.1
  have hx2 := hx.2
  refine y_iload_n C 0 dX5_isPlane_0 rfl ?_
  refine y_if_lt C 13 dX5_isPlane_1 (by decide) ⟨by omega, by omega⟩ (fun c_1 => ?_) (fun c_1 => ?_)
  · refine y_iconst C dX5_isPlane_13 ?_
    refine hret _ _ _ _ dX5_isPlane_14 ⟨rfl, ?_⟩
    show ((0 = 1 ∧ (0 ≤ x ∧ x < 5)) ∨ (0 = 0 ∧ ¬ (0 ≤ x ∧ x < 5)))
    omega
  · refine y_iload_n C 0 dX5_isPlane_4 rfl ?_
    refine y_iconst C dX5_isPlane_5 ?_
    refine y_icmp_ge C 13 dX5_isPlane_6 (by decide) ⟨⟨by omega, by omega⟩, ⟨by omega, by omega⟩⟩ (fun c_2 => ?_) (fun c_2 => ?_)
    · refine y_iconst C dX5_isPlane_13 ?_
      refine hret _ _ _ _ dX5_isPlane_14 ⟨rfl, ?_⟩
      show ((0 = 1 ∧ (0 ≤ x ∧ x < 5)) ∨ (0 = 0 ∧ ¬ (0 ≤ x ∧ x < 5)))
      omega
    · refine y_iconst C dX5_isPlane_9 ?_
      refine y_goto C 14 dX5_isPlane_10 (by decide) ?_
      refine hret _ _ _ _ dX5_isPlane_14 ⟨rfl, ?_⟩
      show ((1 = 1 ∧ (0 ≤ x ∧ x < 5)) ∨ (1 = 0 ∧ ¬ (0 ≤ x ∧ x < 5)))
      omega

set_option maxHeartbeats 4000000 in
set_option maxRecDepth 100000 in
theorem m_X5_isDot {l : Launch} {D : va_G} {cA cB : ClassId} {x : Int} (hx : zR x) : MI l yX5_isDot cX5_isDot 1 .boolean { frames := 0, cells := 0, slots := 0, locals := 0 } D (zT cA cB) [.int (zI x)] [] (fun r w => w = [] ∧ ((r = 1 ∧ (0 ≤ x ∧ x < 8)) ∨ (r = 0 ∧ ¬ (0 ≤ x ∧ x < 8)))) := by
  refine MI.of RX5 ⟨rfl, by decide +kernel⟩ (Or.inr rfl) (Nat.le_of_ble_eq_true rfl) (fun _ r w h => by rcases h.2 with h | h; exact Or.inr h.1; exact Or.inl h.1) ?_
  intro K C hret
  change K 0 0 _ [(0, .int (zI x))] 0 []
  have hx1 := hx.1
  have hx2 := hx.2
  refine y_iload_n C 0 dX5_isDot_0 rfl ?_
  refine y_if_lt C 14 dX5_isDot_1 (by decide) ⟨by omega, by omega⟩ (fun c_1 => ?_) (fun c_1 => ?_)
  · refine y_iconst C dX5_isDot_14 ?_
    refine hret _ _ _ _ dX5_isDot_15 ⟨rfl, ?_⟩
    show ((0 = 1 ∧ (0 ≤ x ∧ x < 8)) ∨ (0 = 0 ∧ ¬ (0 ≤ x ∧ x < 8)))
    omega
  · refine y_iload_n C 0 dX5_isDot_4 rfl ?_
    refine y_bipush C dX5_isDot_5 (by decide +kernel) ?_
    refine y_icmp_ge C 14 dX5_isDot_7 (by decide) ⟨⟨by omega, by omega⟩, ⟨by omega, by omega⟩⟩ (fun c_2 => ?_) (fun c_2 => ?_)
    · refine y_iconst C dX5_isDot_14 ?_
      refine hret _ _ _ _ dX5_isDot_15 ⟨rfl, ?_⟩
      show ((0 = 1 ∧ (0 ≤ x ∧ x < 8)) ∨ (0 = 0 ∧ ¬ (0 ≤ x ∧ x < 8)))
      omega
    · refine y_iconst C dX5_isDot_10 ?_
      refine y_goto C 15 dX5_isDot_11 (by decide) ?_
      refine hret _ _ _ _ dX5_isDot_15 ⟨rfl, ?_⟩
      show ((1 = 1 ∧ (0 ≤ x ∧ x < 8)) ∨ (1 = 0 ∧ ¬ (0 ≤ x ∧ x < 8)))
      omega

set_option maxHeartbeats 4000000 in
set_option maxRecDepth 100000 in
theorem m_X5_placeOf {l : Launch} {D : va_G} {cA cB : ClassId} {x y : Int}  : MI l yX5_placeOf cX5_placeOf 2 .int { frames := 0, cells := 0, slots := 0, locals := 0 } D (zT cA cB) [.int (zI x), .int (zI y)] [] (fun r w => w = [] ∧ r = x * 32 + y) := by
  refine MI.of RX5 ⟨rfl, by decide +kernel⟩ (Or.inl rfl) (Nat.le_of_ble_eq_true rfl) (fun h => by cases h) ?_
  intro K C hret
  change K 0 0 _ [(0, .int (zI x)), (1, .int (zI y))] 0 []
  refine y_iload_n C 0 dX5_placeOf_0 rfl ?_
  refine y_bipush C dX5_placeOf_1 (by decide +kernel) ?_
  refine y_imul C dX5_placeOf_3 ?_
  refine y_iload_n C 1 dX5_placeOf_4 rfl ?_
  refine y_iadd C dX5_placeOf_5 ?_
  refine hret _ _ _ _ dX5_placeOf_6 ⟨rfl, ?_⟩
  show ((x * 32) + y) = x * 32 + y
  omega
