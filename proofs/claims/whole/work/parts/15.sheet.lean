set_option maxHeartbeats 4000000 in
set_option maxRecDepth 100000 in
theorem m_X4_differences {l : Launch} {D : va_G} {cA cB : ClassId} {x y : Nat} {f g : Int → Int} (hf : ∀ k : Int, 0 ≤ k → k < 256 → -4 ≤ f k ∧ f k ≤ 7) (hg : ∀ k : Int, 0 ≤ k → k < 256 → -4 ≤ g k ∧ g k ≤ 7) : MI l yX4_differences cX4_differences 4 .int { frames := 0, cells := 0, slots := 0, locals := 0 } D (zT cA cB) [.ref x, .ref y] [cI cA x 256 f, cI cA y 256 g] (fun r w => w = [cI cA x 256 f, cI cA y 256 g] ∧ r = zcnt (fun k => ¬ f k = g k) 256 ∧ 0 ≤ r ∧ r ≤ 256) := by
  refine MI.of RX4 ⟨rfl, by decide +kernel⟩ (Or.inl rfl) (Nat.le_of_ble_eq_true rfl) (fun h => by cases h) ?_
  intro K C hret
  change K 0 0 _ [(0, .ref x), (1, .ref y)] 0 []
  refine y_iconst C dX4_differences_0 ?_
  refine y_istore_n C [(2, .int (zI 0)), (0, .ref x), (1, .ref y)] dX4_differences_1 (by decide) rfl ?_
  refine y_iconst C dX4_differences_2 ?_
  refine y_istore_n C [(3, .int (zI 0)), (2, .int (zI 0)), (0, .ref x), (1, .ref y)] dX4_differences_3 (by decide) rfl ?_
  refine y_lsub C [2, 3, 1, 0] (lv' := [(0, .ref x), (1, .ref y), (2, .int (zI 0)), (3, .int (zI 0))]) rfl ?_
  suffices hL4 : ∀ (fu : Nat) (n : Int) (c : Int), (0 ≤ c ∧ c ≤ 256) → (n = zcnt (fun k => ¬ f k = g k) c ∧ 0 ≤ n ∧ n ≤ c) → (256 - c).toNat < fu → K 0 0 [cI cA x 256 f, cI cA y 256 g] [(0, .ref x), (1, .ref y), (2, .int (zI n)), (3, .int (zI c))] 4 [] from hL4 _ 0 0 (by omega) (by exact ⟨rfl, by omega, by omega⟩) (Nat.lt_succ_self _)
  intro f4
  induction f4 with
  | zero => exact fun _ _ _ _ hf => absurd hf (Nat.not_lt_zero _)
  | succ f4 ih4 =>
    intro n c hc hn hf4
    refine y_iload_n C 3 dX4_differences_4 rfl ?_
    refine y_aload_n C 0 dX4_differences_5 rfl ?_
    refine y_alen C 0 0 dX4_differences_6 rfl rfl ?_
    refine y_icmp_ge C 34 dX4_differences_7 (by decide) ⟨⟨by omega, by omega⟩, ⟨by omega, by omega⟩⟩ (fun c_1 => ?_) (fun c_1 => ?_)
    · refine y_iload_n C 2 dX4_differences_34 rfl ?_
      refine hret _ _ _ _ dX4_differences_35 ⟨rfl, ?_⟩
      show n = zcnt (fun k => ¬ f k = g k) 256 ∧ 0 ≤ n ∧ n ≤ 256
      obtain rfl : c = 256 := by omega
      exact hn
    · refine y_iload_n C 3 dX4_differences_10 rfl ?_
      refine y_aload_n C 1 dX4_differences_11 rfl ?_
      refine y_alen C 1 0 dX4_differences_12 rfl rfl ?_
      refine y_icmp_ge C 34 dX4_differences_13 (by decide) ⟨⟨by omega, by omega⟩, ⟨by omega, by omega⟩⟩ (fun c_2 => False.elim (by omega)) (fun c_2 => ?_)
      refine y_aload_n C 0 dX4_differences_16 rfl ?_
      refine y_iload_n C 3 dX4_differences_17 rfl ?_
      refine y_iald C 0 0 dX4_differences_18 rfl rfl ⟨by omega, by omega, by omega⟩ ?_
      have g_3 := hf c (by omega) (by omega)
      refine y_aload_n C 1 dX4_differences_19 rfl ?_
      refine y_iload_n C 3 dX4_differences_20 rfl ?_
      refine y_iald C 1 0 dX4_differences_21 rfl rfl ⟨by omega, by omega, by omega⟩ ?_
      have g_4 := hg c (by omega) (by omega)
      refine y_icmp_eq C 28 dX4_differences_22 (by decide) ⟨⟨by omega, by omega⟩, ⟨by omega, by omega⟩⟩ (fun c_5 => ?_) (fun c_5 => ?_)
      · refine y_iinc C 3 [(3, .int (zI (c + 1))), (0, .ref x), (1, .ref y), (2, .int (zI n))] dX4_differences_28 rfl (by decide) rfl ?_
        refine y_goto C 4 dX4_differences_31 (by decide) ?_
        refine y_lsub C [1, 2, 3, 0] (lv' := [(0, .ref x), (1, .ref y), (2, .int (zI n)), (3, .int (zI (c + 1)))]) rfl ?_
        exact ih4 n (c + 1) (by omega) (by refine ⟨?_, by omega, by omega⟩; exact zcnt_step (by omega) hn.1 (by omega)) (by omega)
      · refine y_iinc C 2 [(2, .int (zI (n + 1))), (0, .ref x), (1, .ref y), (3, .int (zI c))] dX4_differences_25 rfl (by decide) rfl ?_
        refine y_iinc C 3 [(3, .int (zI (c + 1))), (2, .int (zI (n + 1))), (0, .ref x), (1, .ref y)] dX4_differences_28 rfl (by decide) rfl ?_
        refine y_goto C 4 dX4_differences_31 (by decide) ?_
        refine y_lsub C [2, 3, 1, 0] (lv' := [(0, .ref x), (1, .ref y), (2, .int (zI (n + 1))), (3, .int (zI (c + 1)))]) rfl ?_
        exact ih4 (n + 1) (c + 1) (by omega) (by refine ⟨?_, by omega, by omega⟩; exact zcnt_step (by omega) hn.1 (by omega)) (by omega)

set_option maxHeartbeats 4000000 in
set_option maxRecDepth 100000 in
theorem m_X4_otherPlanesThan {l : Launch} {D : va_G} {cA cB : ClassId} {s b0 b1 b2 b3 b4 : Nat} {len lot : Int} {t f0 f1 f2 f3 f4 : Nat} {len2 lot2 : Int} {P P2 : Int → Int} (hPr : ∀ k : Int, 0 ≤ k → k < 256 → -4 ≤ P k ∧ P k ≤ 7) (hPr2 : ∀ k : Int, 0 ≤ k → k < 256 → -4 ≤ P2 k ∧ P2 k ≤ 7) : MI l yX4_otherPlanesThan cX4_otherPlanesThan 2 .int { frames := 1, cells := 0, slots := 0, locals := 23 } D (zT cA cB) [.ref s, .ref t] [cO s 4 [.ref b0, .ref b1, .ref b2, .ref b3, .ref b4, .int (zI len), .int (zI lot)], cI cA b0 256 P, cO t 4 [.ref f0, .ref f1, .ref f2, .ref f3, .ref f4, .int (zI len2), .int (zI lot2)], cI cA f0 256 P2] (fun r w => w = [cO s 4 [.ref b0, .ref b1, .ref b2, .ref b3, .ref b4, .int (zI len), .int (zI lot)], cI cA b0 256 P, cO t 4 [.ref f0, .ref f1, .ref f2, .ref f3, .ref f4, .int (zI len2), .int (zI lot2)], cI cA f0 256 P2] ∧ r = zcnt (fun k => ¬ P k = P2 k) 256 ∧ 0 ≤ r ∧ r ≤ 256) := by
  refine MI.of RX4 ⟨rfl, by decide +kernel⟩ (Or.inl rfl) (Nat.le_of_ble_eq_true rfl) (fun h => by cases h) ?_
  intro K C hret
  change K 0 0 _ [(0, .ref s), (1, .ref t)] 0 []
  refine y_aload_n C 0 dX4_otherPlanesThan_0 rfl ?_
  refine y_get C fg_X4_9 0 dX4_otherPlanesThan_1 rfl rfl ?_
  refine y_aload_n C 1 dX4_otherPlanesThan_4 rfl ?_
  refine y_get C fg_X4_9 2 dX4_otherPlanesThan_5 rfl rfl ?_
  refine y_pcalls C (m_X4_differences (l := l) (D := D) (cA := cA) (cB := cB) (x := b0) (y := f0) (f := P) (g := P2) (by first | assumption | omega | exact ⟨by omega, by omega⟩) (by first | assumption | omega | exact ⟨by omega, by omega⟩)) lk_X4_60 [1, 3] [0, 2] [0, 2, 1, 3] ⟨rfl, rfl, by decide, by decide, by decide⟩ ⟨rfl, by decide⟩ dX4_otherPlanesThan_8 rfl rfl ⟨by exact Nat.le_of_ble_eq_true rfl, by exact Nat.le_of_ble_eq_true rfl, rfl, rfl, by exact Nat.le_of_ble_eq_true rfl, by exact Nat.le_of_ble_eq_true rfl, by exact Nat.le_of_ble_eq_true rfl⟩ (fun r_2 h_1 => ?_)
  refine hret _ _ _ _ dX4_otherPlanesThan_11 ⟨rfl, ?_⟩
  show r_2 = zcnt (fun k => ¬ P k = P2 k) 256 ∧ 0 ≤ r_2 ∧ r_2 ≤ 256
  assumption

set_option maxHeartbeats 4000000 in
set_option maxRecDepth 100000 in
theorem m_X4_otherDotsThan {l : Launch} {D : va_G} {cA cB : ClassId} {s b0 b1 b2 b3 b4 : Nat} {len lot : Int} {t f0 f1 f2 f3 f4 : Nat} {len2 lot2 : Int} {P P2 : Int → Int} (hPr : ∀ k : Int, 0 ≤ k → k < 256 → -4 ≤ P k ∧ P k ≤ 7) (hPr2 : ∀ k : Int, 0 ≤ k → k < 256 → -4 ≤ P2 k ∧ P2 k ≤ 7) : MI l yX4_otherDotsThan cX4_otherDotsThan 2 .int { frames := 1, cells := 0, slots := 0, locals := 23 } D (zT cA cB) [.ref s, .ref t] [cO s 4 [.ref b0, .ref b1, .ref b2, .ref b3, .ref b4, .int (zI len), .int (zI lot)], cI cA b1 256 P, cO t 4 [.ref f0, .ref f1, .ref f2, .ref f3, .ref f4, .int (zI len2), .int (zI lot2)], cI cA f1 256 P2] (fun r w => w = [cO s 4 [.ref b0, .ref b1, .ref b2, .ref b3, .ref b4, .int (zI len), .int (zI lot)], cI cA b1 256 P, cO t 4 [.ref f0, .ref f1, .ref f2, .ref f3, .ref f4, .int (zI len2), .int (zI lot2)], cI cA f1 256 P2] ∧ r = zcnt (fun k => ¬ P k = P2 k) 256 ∧ 0 ≤ r ∧ r ≤ 256) := by
  refine MI.of RX4 ⟨rfl, by decide +kernel⟩ (Or.inl rfl) (Nat.le_of_ble_eq_true rfl) (fun h => by cases h) ?_
  intro K C hret
  change K 0 0 _ [(0, .ref s), (1, .ref t)] 0 []
  refine y_aload_n C 0 dX4_otherDotsThan_0 rfl ?_
  refine y_get C fg_X4_15 0 dX4_otherDotsThan_1 rfl rfl ?_
  refine y_aload_n C 1 dX4_otherDotsThan_4 rfl ?_
  refine y_get C fg_X4_15 2 dX4_otherDotsThan_5 rfl rfl ?_
  refine y_pcalls C (m_X4_differences (l := l) (D := D) (cA := cA) (cB := cB) (x := b1) (y := f1) (f := P) (g := P2) (by first | assumption | omega | exact ⟨by omega, by omega⟩) (by first | assumption | omega | exact ⟨by omega, by omega⟩)) lk_X4_60 [1, 3] [0, 2] [0, 2, 1, 3] ⟨rfl, rfl, by decide, by decide, by decide⟩ ⟨rfl, by decide⟩ dX4_otherDotsThan_8 rfl rfl ⟨by exact Nat.le_of_ble_eq_true rfl, by exact Nat.le_of_ble_eq_true rfl, rfl, rfl, by exact Nat.le_of_ble_eq_true rfl, by exact Nat.le_of_ble_eq_true rfl, by exact Nat.le_of_ble_eq_true rfl⟩ (fun r_2 h_1 => ?_)
  refine hret _ _ _ _ dX4_otherDotsThan_11 ⟨rfl, ?_⟩
  show r_2 = zcnt (fun k => ¬ P k = P2 k) 256 ∧ 0 ≤ r_2 ∧ r_2 ≤ 256
  assumption

set_option maxHeartbeats 4000000 in
set_option maxRecDepth 100000 in
theorem m_X4_planesAboveZero {l : Launch} {D : va_G} {cA cB : ClassId} {s b0 b1 b2 b3 b4 : Nat} {len lot : Int} {P : Int → Int} (hPr : ∀ k : Int, 0 ≤ k → k < 256 → -4 ≤ P k ∧ P k ≤ 7) : MI l yX4_planesAboveZero cX4_planesAboveZero 3 .int { frames := 0, cells := 0, slots := 0, locals := 0 } D (zT cA cB) [.ref s] [cO s 4 [.ref b0, .ref b1, .ref b2, .ref b3, .ref b4, .int (zI len), .int (zI lot)], cI cA b0 256 P] (fun r w => w = [cO s 4 [.ref b0, .ref b1, .ref b2, .ref b3, .ref b4, .int (zI len), .int (zI lot)], cI cA b0 256 P] ∧ r = zcnt (fun k => 0 < P k) 256 ∧ 0 ≤ r ∧ r ≤ 256) := by
  refine MI.of RX4 ⟨rfl, by decide +kernel⟩ (Or.inl rfl) (Nat.le_of_ble_eq_true rfl) (fun h => by cases h) ?_
  intro K C hret
  change K 0 0 _ [(0, .ref s)] 0 []
  refine y_iconst C dX4_planesAboveZero_0 ?_
  refine y_istore_n C [(1, .int (zI 0)), (0, .ref s)] dX4_planesAboveZero_1 (by decide) rfl ?_
  refine y_iconst C dX4_planesAboveZero_2 ?_
  refine y_istore_n C [(2, .int (zI 0)), (1, .int (zI 0)), (0, .ref s)] dX4_planesAboveZero_3 (by decide) rfl ?_
  refine y_lsub C [2, 1, 0] (lv' := [(0, .ref s), (1, .int (zI 0)), (2, .int (zI 0))]) rfl ?_
  suffices hL4 : ∀ (fu : Nat) (n : Int) (c : Int), (0 ≤ c ∧ c ≤ 256) → (n = zcnt (fun k => 0 < P k) c ∧ 0 ≤ n ∧ n ≤ c) → (256 - c).toNat < fu → K 0 0 [cO s 4 [.ref b0, .ref b1, .ref b2, .ref b3, .ref b4, .int (zI len), .int (zI lot)], cI cA b0 256 P] [(0, .ref s), (1, .int (zI n)), (2, .int (zI c))] 4 [] from hL4 _ 0 0 (by omega) (by exact ⟨rfl, by omega, by omega⟩) (Nat.lt_succ_self _)
  intro f4
  induction f4 with
  | zero => exact fun _ _ _ _ hf => absurd hf (Nat.not_lt_zero _)
  | succ f4 ih4 =>
    intro n c hc hn hf4
    refine y_iload_n C 2 dX4_planesAboveZero_4 rfl ?_
    refine y_sipush C dX4_planesAboveZero_5 (by decide +kernel) ?_
    refine y_icmp_ge C 29 dX4_planesAboveZero_8 (by decide) ⟨⟨by omega, by omega⟩, ⟨by omega, by omega⟩⟩ (fun c_1 => ?_) (fun c_1 => ?_)
    · refine y_iload_n C 1 dX4_planesAboveZero_29 rfl ?_
      refine hret _ _ _ _ dX4_planesAboveZero_30 ⟨rfl, ?_⟩
      show n = zcnt (fun k => 0 < P k) 256 ∧ 0 ≤ n ∧ n ≤ 256
      obtain rfl : c = 256 := by omega
      exact hn
    · refine y_aload_n C 0 dX4_planesAboveZero_11 rfl ?_
      refine y_get C fg_X4_9 0 dX4_planesAboveZero_12 rfl rfl ?_
      refine y_iload_n C 2 dX4_planesAboveZero_15 rfl ?_
      refine y_iald C 1 0 dX4_planesAboveZero_16 rfl rfl ⟨by omega, by omega, by omega⟩ ?_
      have g_2 := hPr c (by omega) (by omega)
      refine y_if_le C 23 dX4_planesAboveZero_17 (by decide) ⟨by omega, by omega⟩ (fun c_3 => ?_) (fun c_3 => ?_)
      · refine y_iinc C 2 [(2, .int (zI (c + 1))), (0, .ref s), (1, .int (zI n))] dX4_planesAboveZero_23 rfl (by decide) rfl ?_
        refine y_goto C 4 dX4_planesAboveZero_26 (by decide) ?_
        refine y_lsub C [1, 2, 0] (lv' := [(0, .ref s), (1, .int (zI n)), (2, .int (zI (c + 1)))]) rfl ?_
        exact ih4 n (c + 1) (by omega) (by refine ⟨?_, by omega, by omega⟩; exact zcnt_step (by omega) hn.1 (by omega)) (by omega)
      · refine y_iinc C 1 [(1, .int (zI (n + 1))), (0, .ref s), (2, .int (zI c))] dX4_planesAboveZero_20 rfl (by decide) rfl ?_
        refine y_iinc C 2 [(2, .int (zI (c + 1))), (1, .int (zI (n + 1))), (0, .ref s)] dX4_planesAboveZero_23 rfl (by decide) rfl ?_
        refine y_goto C 4 dX4_planesAboveZero_26 (by decide) ?_
        refine y_lsub C [2, 1, 0] (lv' := [(0, .ref s), (1, .int (zI (n + 1))), (2, .int (zI (c + 1)))]) rfl ?_
        exact ih4 (n + 1) (c + 1) (by omega) (by refine ⟨?_, by omega, by omega⟩; exact zcnt_step (by omega) hn.1 (by omega)) (by omega)

set_option maxHeartbeats 4000000 in
set_option maxRecDepth 100000 in
theorem m_X4_layPlane {l : Launch} {D : va_G} {cA cB : ClassId} {s b0 b1 b2 b3 b4 : Nat} {len lot : Int} {P : Int → Int} {top left bottom right pl : Int} (ht : 0 ≤ top ∧ top ≤ bottom ∧ bottom ≤ 7) (hl : 0 ≤ left ∧ left ≤ right ∧ right ≤ 31) (hpl : 0 ≤ pl ∧ pl ≤ 4) : MV l yX4_layPlane cX4_layPlane 8 { frames := 1, cells := 0, slots := 0, locals := 21 } D (zT cA cB) [.ref s, .int (zI top), .int (zI left), .int (zI bottom), .int (zI right), .int (zI pl)] [cO s 4 [.ref b0, .ref b1, .ref b2, .ref b3, .ref b4, .int (zI len), .int (zI lot)], cI cA b0 256 P] (fun w => ∃ (P2 : Int → Int), w = [cO s 4 [.ref b0, .ref b1, .ref b2, .ref b3, .ref b4, .int (zI len), .int (zI lot)], cI cA b0 256 P2] ∧ (∀ k : Int, 0 ≤ k → k < 256 → P2 k = if (top ≤ k / 32 ∧ k / 32 ≤ bottom ∧ left ≤ k % 32 ∧ k % 32 ≤ right) then pl else P k)) := by
  refine MV.of RX4 ⟨rfl, by decide +kernel⟩ (Nat.le_of_ble_eq_true rfl) ?_
  intro K C hret
  change K 0 0 _ [(0, .ref s), (1, .int (zI top)), (2, .int (zI left)), (3, .int (zI bottom)), (4, .int (zI right)), (5, .int (zI pl))] 0 []
  refine y_iload_n C 1 dX4_layPlane_0 rfl ?_
  refine y_istore C [(6, .int (zI top)), (0, .ref s), (1, .int (zI top)), (2, .int (zI left)), (3, .int (zI bottom)), (4, .int (zI right)), (5, .int (zI pl))] dX4_layPlane_1 (by decide) rfl ?_
  refine y_lsub C [1, 2, 3, 4, 5, 6, 0] (lv' := [(0, .ref s), (1, .int (zI top)), (2, .int (zI left)), (3, .int (zI bottom)), (4, .int (zI right)), (5, .int (zI pl)), (6, .int (zI top))]) rfl ?_
  suffices hL3 : ∀ (fu : Nat) (row : Int) (P1 : Int → Int), (top ≤ row ∧ row ≤ bottom + 1) → (∀ k : Int, 0 ≤ k → k < 256 → P1 k = if (top ≤ k / 32 ∧ k / 32 < row ∧ left ≤ k % 32 ∧ k % 32 ≤ right) then pl else P k) → (9 - row).toNat < fu → K 0 0 [cO s 4 [.ref b0, .ref b1, .ref b2, .ref b3, .ref b4, .int (zI len), .int (zI lot)], cI cA b0 256 P1] [(0, .ref s), (1, .int (zI top)), (2, .int (zI left)), (3, .int (zI bottom)), (4, .int (zI right)), (5, .int (zI pl)), (6, .int (zI row))] 3 [] from hL3 _ top P (by omega) (by intro k h1 h2; rw [if_neg (by omega)]) (Nat.lt_succ_self _)
  intro f3
  induction f3 with
  | zero => exact fun _ _ _ _ hf => absurd hf (Nat.not_lt_zero _)
  | succ f3 ih3 =>
    intro row P1 hr hi hf3
    refine y_iload C 6 dX4_layPlane_3 rfl ?_
    refine y_iload_n C 3 dX4_layPlane_5 rfl ?_
    refine y_icmp_gt C 61 dX4_layPlane_6 (by decide) ⟨⟨by omega, by omega⟩, ⟨by omega, by omega⟩⟩ (fun c_1 => ?_) (fun c_1 => ?_)
    · refine hret _ _ _ dX4_layPlane_61 ⟨P1, rfl, ?_⟩
      show (∀ k : Int, 0 ≤ k → k < 256 → P1 k = if (top ≤ k / 32 ∧ k / 32 ≤ bottom ∧ left ≤ k % 32 ∧ k % 32 ≤ right) then pl else P k)
      intro k h1 h2
      rw [hi k h1 h2]
      (repeat' split) <;> first | rfl | (exfalso; omega)
    · refine y_iload C 6 dX4_layPlane_9 rfl ?_
      refine y_pcallsN C (m_X5_isRow (l := l) (D := D) (cA := cA) (cB := cB) (x := row) (by first | assumption | omega | exact ⟨by omega, by omega⟩)) lk_X4_49 [] [0, 1] [0, 1] ⟨rfl, rfl, by decide, by decide, by decide⟩ ⟨rfl, by decide⟩ dX4_layPlane_11 rfl rfl ⟨by exact Nat.le_of_ble_eq_true rfl, by exact Nat.le_of_ble_eq_true rfl, rfl, rfl, by exact Nat.le_of_ble_eq_true rfl, by exact Nat.le_of_ble_eq_true rfl, by exact Nat.le_of_ble_eq_true rfl⟩ (fun r_3 h_2 => ?_)
      refine y_if_eq C 61 dX4_layPlane_14 (by decide) ⟨by omega, by omega⟩ (fun c_4 => False.elim (by omega)) (fun c_4 => ?_)
      refine y_iload_n C 2 dX4_layPlane_17 rfl ?_
      refine y_istore C [(7, .int (zI left)), (0, .ref s), (1, .int (zI top)), (2, .int (zI left)), (3, .int (zI bottom)), (4, .int (zI right)), (5, .int (zI pl)), (6, .int (zI row))] dX4_layPlane_18 (by decide) rfl ?_
      refine y_lsub C [1, 2, 3, 4, 5, 6, 7, 0] (lv' := [(0, .ref s), (1, .int (zI top)), (2, .int (zI left)), (3, .int (zI bottom)), (4, .int (zI right)), (5, .int (zI pl)), (6, .int (zI row)), (7, .int (zI left))]) rfl ?_
      suffices hL20 : ∀ (fu : Nat) (col : Int) (P3 : Int → Int), (left ≤ col ∧ col ≤ right + 1) → (∀ k : Int, 0 ≤ k → k < 256 → P3 k = if (top ≤ k / 32 ∧ k / 32 < row ∧ left ≤ k % 32 ∧ k % 32 ≤ right) ∨ (k / 32 = row ∧ left ≤ k % 32 ∧ k % 32 < col) then pl else P k) → (33 - col).toNat < fu → K 0 0 [cO s 4 [.ref b0, .ref b1, .ref b2, .ref b3, .ref b4, .int (zI len), .int (zI lot)], cI cA b0 256 P3] [(0, .ref s), (1, .int (zI top)), (2, .int (zI left)), (3, .int (zI bottom)), (4, .int (zI right)), (5, .int (zI pl)), (6, .int (zI row)), (7, .int (zI col))] 20 [] from hL20 _ left P1 (by omega) (by intro k h1 h2; rw [hi k h1 h2]; (repeat' split) <;> first | rfl | (exfalso; omega)) (Nat.lt_succ_self _)
      intro f20
      induction f20 with
      | zero => exact fun _ _ _ _ hf => absurd hf (Nat.not_lt_zero _)
      | succ f20 ih20 =>
        intro col P3 hcl hi2 hf20
        refine y_iload C 7 dX4_layPlane_20 rfl ?_
        refine y_iload C 4 dX4_layPlane_22 rfl ?_
        refine y_icmp_gt C 55 dX4_layPlane_24 (by decide) ⟨⟨by omega, by omega⟩, ⟨by omega, by omega⟩⟩ (fun c_5 => ?_) (fun c_5 => ?_)
        · refine y_iinc C 6 [(6, .int (zI (row + 1))), (0, .ref s), (1, .int (zI top)), (2, .int (zI left)), (3, .int (zI bottom)), (4, .int (zI right)), (5, .int (zI pl)), (7, .int (zI col))] dX4_layPlane_55 rfl (by decide) rfl ?_
          refine y_goto C 3 dX4_layPlane_58 (by decide) ?_
          refine y_lsub C [1, 2, 3, 4, 5, 6, 0] (lv' := [(0, .ref s), (1, .int (zI top)), (2, .int (zI left)), (3, .int (zI bottom)), (4, .int (zI right)), (5, .int (zI pl)), (6, .int (zI (row + 1)))]) rfl ?_
          exact ih3 (row + 1) P3 (by omega) (by intro k h1 h2; rw [hi2 k h1 h2]; (repeat' split) <;> first | rfl | (exfalso; omega)) (by omega)
        · refine y_iload C 7 dX4_layPlane_27 rfl ?_
          refine y_pcallsN C (m_X5_isColumn (l := l) (D := D) (cA := cA) (cB := cB) (x := col) (by first | assumption | omega | exact ⟨by omega, by omega⟩)) lk_X4_53 [] [0, 1] [0, 1] ⟨rfl, rfl, by decide, by decide, by decide⟩ ⟨rfl, by decide⟩ dX4_layPlane_29 rfl rfl ⟨by exact Nat.le_of_ble_eq_true rfl, by exact Nat.le_of_ble_eq_true rfl, rfl, rfl, by exact Nat.le_of_ble_eq_true rfl, by exact Nat.le_of_ble_eq_true rfl, by exact Nat.le_of_ble_eq_true rfl⟩ (fun r_7 h_6 => ?_)
          refine y_if_eq C 55 dX4_layPlane_32 (by decide) ⟨by omega, by omega⟩ (fun c_8 => False.elim (by omega)) (fun c_8 => ?_)
          refine y_aload_n C 0 dX4_layPlane_35 rfl ?_
          refine y_get C fg_X4_9 0 dX4_layPlane_36 rfl rfl ?_
          refine y_iload C 6 dX4_layPlane_39 rfl ?_
          refine y_iload C 7 dX4_layPlane_41 rfl ?_
          refine y_pcallsN C (m_X5_placeOf (l := l) (D := D) (cA := cA) (cB := cB) (x := row) (y := col) ) lk_X4_56 [] [0, 1] [0, 1] ⟨rfl, rfl, by decide, by decide, by decide⟩ ⟨rfl, by decide⟩ dX4_layPlane_43 rfl rfl ⟨by exact Nat.le_of_ble_eq_true rfl, by exact Nat.le_of_ble_eq_true rfl, rfl, rfl, by exact Nat.le_of_ble_eq_true rfl, by exact Nat.le_of_ble_eq_true rfl, by exact Nat.le_of_ble_eq_true rfl⟩ (fun r_10 h_9 => ?_)
          refine y_iload C 5 dX4_layPlane_46 rfl ?_
          refine y_iast C 1 0 [cO s 4 [.ref b0, .ref b1, .ref b2, .ref b3, .ref b4, .int (zI len), .int (zI lot)], cI cA b0 256 (zU P3 r_10 pl)] dX4_layPlane_48 rfl rfl ⟨by omega, by omega, by omega⟩ rfl ?_
          refine y_iinc C 7 [(7, .int (zI (col + 1))), (0, .ref s), (1, .int (zI top)), (2, .int (zI left)), (3, .int (zI bottom)), (4, .int (zI right)), (5, .int (zI pl)), (6, .int (zI row))] dX4_layPlane_49 rfl (by decide) rfl ?_
          refine y_goto C 20 dX4_layPlane_52 (by decide) ?_
          refine y_lsub C [1, 2, 3, 4, 5, 6, 7, 0] (lv' := [(0, .ref s), (1, .int (zI top)), (2, .int (zI left)), (3, .int (zI bottom)), (4, .int (zI right)), (5, .int (zI pl)), (6, .int (zI row)), (7, .int (zI (col + 1)))]) rfl ?_
          exact ih20 (col + 1) (zU P3 r_10 pl) (by omega) (by intro k h1 h2; unfold zU; rw [hi2 k h1 h2]; (repeat' split) <;> first | rfl | (exfalso; omega)) (by omega)

set_option maxHeartbeats 4000000 in
set_option maxRecDepth 100000 in
theorem m_X4_copyFrom {l : Launch} {D : va_G} {cA cB : ClassId} {s b0 b1 b2 b3 b4 : Nat} {len lot : Int} {t f0 f1 f2 f3 f4 : Nat} {len2 lot2 : Int} {u P Q M S T P2 Q2 M2 S2 T2 : Int → Int} (hrel : Rel u S P Q M T len lot) : MV l yX4_copyFrom cX4_copyFrom 2 { frames := 1, cells := 0, slots := 0, locals := 22 } D (zT cA cB) [.ref t, .ref s] [cO t 4 [.ref f0, .ref f1, .ref f2, .ref f3, .ref f4, .int (zI len2), .int (zI lot2)], cI cA f0 256 P2, cI cA f1 256 Q2, cI cA f2 256 M2, cI cA f3 6 S2, cI cA f4 24 T2, cO s 4 [.ref b0, .ref b1, .ref b2, .ref b3, .ref b4, .int (zI len), .int (zI lot)], cI cA b0 256 P, cI cA b1 256 Q, cI cA b2 256 M, cI cA b3 6 S, cI cA b4 24 T] (fun w => ∃ (P3 : Int → Int), ∃ (Q3 : Int → Int), ∃ (M3 : Int → Int), ∃ (S3 : Int → Int), ∃ (T3 : Int → Int), w = [cO t 4 [.ref f0, .ref f1, .ref f2, .ref f3, .ref f4, .int (zI len), .int (zI lot)], cI cA f0 256 P3, cI cA f1 256 Q3, cI cA f2 256 M3, cI cA f3 6 S3, cI cA f4 24 T3, cO s 4 [.ref b0, .ref b1, .ref b2, .ref b3, .ref b4, .int (zI len), .int (zI lot)], cI cA b0 256 P, cI cA b1 256 Q, cI cA b2 256 M, cI cA b3 6 S, cI cA b4 24 T] ∧ (Rel u S3 P3 Q3 M3 T3 len lot)) := by
  refine MV.of RX4 ⟨rfl, by decide +kernel⟩ (Nat.le_of_ble_eq_true rfl) ?_
  intro K C hret
  change K 0 0 _ [(0, .ref t), (1, .ref s)] 0 []
  refine y_aload_n C 1 dX4_copyFrom_0 rfl ?_
  refine y_get C fg_X4_9 6 dX4_copyFrom_1 rfl rfl ?_
  refine y_iconst C dX4_copyFrom_4 ?_
  refine y_aload_n C 0 dX4_copyFrom_5 rfl ?_
  refine y_get C fg_X4_9 0 dX4_copyFrom_6 rfl rfl ?_
  refine y_iconst C dX4_copyFrom_9 ?_
  refine y_sipush C dX4_copyFrom_10 (by decide +kernel) ?_
  refine y_copy C lk_X4_40 7 1 0 [cO t 4 [.ref f0, .ref f1, .ref f2, .ref f3, .ref f4, .int (zI len2), .int (zI lot2)], cI cA f0 256 (zC P P2 0 0 256), cI cA f1 256 Q2, cI cA f2 256 M2, cI cA f3 6 S2, cI cA f4 24 T2, cO s 4 [.ref b0, .ref b1, .ref b2, .ref b3, .ref b4, .int (zI len), .int (zI lot)], cI cA b0 256 P, cI cA b1 256 Q, cI cA b2 256 M, cI cA b3 6 S, cI cA b4 24 T] dX4_copyFrom_13 rfl rfl rfl ⟨by omega, by omega, by omega, by omega, by omega, by omega, by omega⟩ ⟨by exact Nat.le_of_ble_eq_true rfl, by exact Nat.le_of_ble_eq_true rfl⟩ rfl ?_
  refine y_aload_n C 1 dX4_copyFrom_16 rfl ?_
  refine y_get C fg_X4_15 6 dX4_copyFrom_17 rfl rfl ?_
  refine y_iconst C dX4_copyFrom_20 ?_
  refine y_aload_n C 0 dX4_copyFrom_21 rfl ?_
  refine y_get C fg_X4_15 0 dX4_copyFrom_22 rfl rfl ?_
  refine y_iconst C dX4_copyFrom_25 ?_
  refine y_sipush C dX4_copyFrom_26 (by decide +kernel) ?_
  refine y_copy C lk_X4_40 8 2 0 [cO t 4 [.ref f0, .ref f1, .ref f2, .ref f3, .ref f4, .int (zI len2), .int (zI lot2)], cI cA f0 256 (zC P P2 0 0 256), cI cA f1 256 (zC Q Q2 0 0 256), cI cA f2 256 M2, cI cA f3 6 S2, cI cA f4 24 T2, cO s 4 [.ref b0, .ref b1, .ref b2, .ref b3, .ref b4, .int (zI len), .int (zI lot)], cI cA b0 256 P, cI cA b1 256 Q, cI cA b2 256 M, cI cA b3 6 S, cI cA b4 24 T] dX4_copyFrom_29 rfl rfl rfl ⟨by omega, by omega, by omega, by omega, by omega, by omega, by omega⟩ ⟨by exact Nat.le_of_ble_eq_true rfl, by exact Nat.le_of_ble_eq_true rfl⟩ rfl ?_
  refine y_aload_n C 1 dX4_copyFrom_32 rfl ?_
  refine y_get C fg_X4_18 6 dX4_copyFrom_33 rfl rfl ?_
  refine y_iconst C dX4_copyFrom_36 ?_
  refine y_aload_n C 0 dX4_copyFrom_37 rfl ?_
  refine y_get C fg_X4_18 0 dX4_copyFrom_38 rfl rfl ?_
  refine y_iconst C dX4_copyFrom_41 ?_
  refine y_sipush C dX4_copyFrom_42 (by decide +kernel) ?_
  refine y_copy C lk_X4_40 9 3 0 [cO t 4 [.ref f0, .ref f1, .ref f2, .ref f3, .ref f4, .int (zI len2), .int (zI lot2)], cI cA f0 256 (zC P P2 0 0 256), cI cA f1 256 (zC Q Q2 0 0 256), cI cA f2 256 (zC M M2 0 0 256), cI cA f3 6 S2, cI cA f4 24 T2, cO s 4 [.ref b0, .ref b1, .ref b2, .ref b3, .ref b4, .int (zI len), .int (zI lot)], cI cA b0 256 P, cI cA b1 256 Q, cI cA b2 256 M, cI cA b3 6 S, cI cA b4 24 T] dX4_copyFrom_45 rfl rfl rfl ⟨by omega, by omega, by omega, by omega, by omega, by omega, by omega⟩ ⟨by exact Nat.le_of_ble_eq_true rfl, by exact Nat.le_of_ble_eq_true rfl⟩ rfl ?_
  refine y_aload_n C 1 dX4_copyFrom_48 rfl ?_
  refine y_get C fg_X4_21 6 dX4_copyFrom_49 rfl rfl ?_
  refine y_iconst C dX4_copyFrom_52 ?_
  refine y_aload_n C 0 dX4_copyFrom_53 rfl ?_
  refine y_get C fg_X4_21 0 dX4_copyFrom_54 rfl rfl ?_
  refine y_iconst C dX4_copyFrom_57 ?_
  refine y_bipush C dX4_copyFrom_58 (by decide +kernel) ?_
  refine y_copy C lk_X4_40 10 4 0 [cO t 4 [.ref f0, .ref f1, .ref f2, .ref f3, .ref f4, .int (zI len2), .int (zI lot2)], cI cA f0 256 (zC P P2 0 0 256), cI cA f1 256 (zC Q Q2 0 0 256), cI cA f2 256 (zC M M2 0 0 256), cI cA f3 6 (zC S S2 0 0 6), cI cA f4 24 T2, cO s 4 [.ref b0, .ref b1, .ref b2, .ref b3, .ref b4, .int (zI len), .int (zI lot)], cI cA b0 256 P, cI cA b1 256 Q, cI cA b2 256 M, cI cA b3 6 S, cI cA b4 24 T] dX4_copyFrom_60 rfl rfl rfl ⟨by omega, by omega, by omega, by omega, by omega, by omega, by omega⟩ ⟨by exact Nat.le_of_ble_eq_true rfl, by exact Nat.le_of_ble_eq_true rfl⟩ rfl ?_
  refine y_aload_n C 1 dX4_copyFrom_63 rfl ?_
  refine y_get C fg_X4_24 6 dX4_copyFrom_64 rfl rfl ?_
  refine y_iconst C dX4_copyFrom_67 ?_
  refine y_aload_n C 0 dX4_copyFrom_68 rfl ?_
  refine y_get C fg_X4_24 0 dX4_copyFrom_69 rfl rfl ?_
  refine y_iconst C dX4_copyFrom_72 ?_
  refine y_bipush C dX4_copyFrom_73 (by decide +kernel) ?_
  refine y_copy C lk_X4_40 11 5 0 [cO t 4 [.ref f0, .ref f1, .ref f2, .ref f3, .ref f4, .int (zI len2), .int (zI lot2)], cI cA f0 256 (zC P P2 0 0 256), cI cA f1 256 (zC Q Q2 0 0 256), cI cA f2 256 (zC M M2 0 0 256), cI cA f3 6 (zC S S2 0 0 6), cI cA f4 24 (zC T T2 0 0 24), cO s 4 [.ref b0, .ref b1, .ref b2, .ref b3, .ref b4, .int (zI len), .int (zI lot)], cI cA b0 256 P, cI cA b1 256 Q, cI cA b2 256 M, cI cA b3 6 S, cI cA b4 24 T] dX4_copyFrom_75 rfl rfl rfl ⟨by omega, by omega, by omega, by omega, by omega, by omega, by omega⟩ ⟨by exact Nat.le_of_ble_eq_true rfl, by exact Nat.le_of_ble_eq_true rfl⟩ rfl ?_
  refine y_aload_n C 0 dX4_copyFrom_78 rfl ?_
  refine y_aload_n C 1 dX4_copyFrom_79 rfl ?_
  refine y_get C fg_X4_46 6 dX4_copyFrom_80 rfl rfl ?_
  refine y_put C fp_X4_46 0 [cO t 4 [.ref f0, .ref f1, .ref f2, .ref f3, .ref f4, .int (zI len), .int (zI lot2)], cI cA f0 256 (zC P P2 0 0 256), cI cA f1 256 (zC Q Q2 0 0 256), cI cA f2 256 (zC M M2 0 0 256), cI cA f3 6 (zC S S2 0 0 6), cI cA f4 24 (zC T T2 0 0 24), cO s 4 [.ref b0, .ref b1, .ref b2, .ref b3, .ref b4, .int (zI len), .int (zI lot)], cI cA b0 256 P, cI cA b1 256 Q, cI cA b2 256 M, cI cA b3 6 S, cI cA b4 24 T] dX4_copyFrom_83 rfl rfl rfl (by exact Nat.le_of_ble_eq_true rfl) rfl ?_
  refine y_aload_n C 0 dX4_copyFrom_86 rfl ?_
  refine y_aload_n C 1 dX4_copyFrom_87 rfl ?_
  refine y_get C fg_X4_27 6 dX4_copyFrom_88 rfl rfl ?_
  refine y_put C fp_X4_27 0 [cO t 4 [.ref f0, .ref f1, .ref f2, .ref f3, .ref f4, .int (zI len), .int (zI lot)], cI cA f0 256 (zC P P2 0 0 256), cI cA f1 256 (zC Q Q2 0 0 256), cI cA f2 256 (zC M M2 0 0 256), cI cA f3 6 (zC S S2 0 0 6), cI cA f4 24 (zC T T2 0 0 24), cO s 4 [.ref b0, .ref b1, .ref b2, .ref b3, .ref b4, .int (zI len), .int (zI lot)], cI cA b0 256 P, cI cA b1 256 Q, cI cA b2 256 M, cI cA b3 6 S, cI cA b4 24 T] dX4_copyFrom_91 rfl rfl rfl (by exact Nat.le_of_ble_eq_true rfl) rfl ?_
  refine hret _ _ _ dX4_copyFrom_94 ⟨(zC P P2 0 0 256), (zC Q Q2 0 0 256), (zC M M2 0 0 256), (zC S S2 0 0 6), (zC T T2 0 0 24), rfl, ?_⟩
  show (Rel u (zC S S2 0 0 6) (zC P P2 0 0 256) (zC Q Q2 0 0 256) (zC M M2 0 0 256) (zC T T2 0 0 24) len lot)
  exact Rel_pt hrel (fun k h0 h1 => zC_00 h0 h1) (fun k h0 h1 => zC_00 h0 h1) (fun k h0 h1 => zC_00 h0 h1) (fun k h0 h1 => zC_00 h0 h1) (fun k h0 h1 => zC_00 h0 h1)
