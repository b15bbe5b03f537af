set_option maxHeartbeats 4000000 in
set_option maxRecDepth 100000 in
theorem m_X1_takeRow {l : Launch} {D : va_G} {cA cB : ClassId} {h a0 a1 a2 a3 a4 a5 : Nat} {per win cr : Int} {s b0 b1 b2 b3 b4 : Nat} {len lot : Int} {u p d mm P Q M S : Int → Int} {row : Int} (hrow : 0 ≤ row ∧ row < 8) (hRS : RS u S) (hRP : RP u P) (hRQ : RQ u Q) (hRM : RM u M) : MV l yX1_takeRow cX1_takeRow 4 { frames := 1, cells := 0, slots := 0, locals := 22 } D (zT cA cB) [.ref h, .ref s, .int (zI row)] [cO h 1 [.ref a0, .ref a1, .ref a2, .ref a3, .ref a4, .ref a5, .int (zI per), .int (zI win), .int (zI cr)], cI cA a0 32 p, cI cA a1 32 d, cI cA a2 32 mm, cO s 4 [.ref b0, .ref b1, .ref b2, .ref b3, .ref b4, .int (zI len), .int (zI lot)], cI cA b0 256 P, cI cA b1 256 Q, cI cA b2 256 M, cI cA b3 6 S] (fun w => ∃ (p2 : Int → Int), ∃ (d2 : Int → Int), ∃ (mm2 : Int → Int), w = [cO h 1 [.ref a0, .ref a1, .ref a2, .ref a3, .ref a4, .ref a5, .int (zI (u 0)), .int (zI (u 2)), .int (zI (u 3))], cI cA a0 32 p2, cI cA a1 32 d2, cI cA a2 32 mm2, cO s 4 [.ref b0, .ref b1, .ref b2, .ref b3, .ref b4, .int (zI len), .int (zI lot)], cI cA b0 256 P, cI cA b1 256 Q, cI cA b2 256 M, cI cA b3 6 S] ∧ (∀ k : Int, 0 ≤ k → k < 32 → p2 k = zp u row k) ∧ (∀ k : Int, 0 ≤ k → k < 32 → d2 k = zd u row k) ∧ (∀ k : Int, 0 ≤ k → k < 32 → mm2 k = zk u row k)) := by
  refine MV.of RX1 ⟨rfl, by decide +kernel⟩ (Nat.le_of_ble_eq_true rfl) ?_
  intro K C hret
  change K 0 0 _ [(0, .ref h), (1, .ref s), (2, .int (zI row))] 0 []
  have hS0 := hRS.1.1
  have hS2 := hRS.1.2.2.1
  have hS3 := hRS.1.2.2.2.1
  have hr3 := hRS.2.2.2.2.1
  refine y_iload_n C 2 dX1_takeRow_0 rfl ?_
  refine y_iconst C dX1_takeRow_1 ?_
  refine y_pcallsN C (m_X5_placeOf (l := l) (D := D) (cA := cA) (cB := cB) (x := row) (y := 0) ) lk_X1_30 [] [0, 1, 2, 3, 4, 5, 6, 7, 8] [0, 1, 2, 3, 4, 5, 6, 7, 8] ⟨rfl, rfl, by decide, by decide, by decide⟩ ⟨rfl, by decide⟩ dX1_takeRow_2 rfl rfl ⟨by exact Nat.le_of_ble_eq_true rfl, by exact Nat.le_of_ble_eq_true rfl, rfl, rfl, by exact Nat.le_of_ble_eq_true rfl, by exact Nat.le_of_ble_eq_true rfl, by exact Nat.le_of_ble_eq_true rfl⟩ (fun r_2 h_1 => ?_)
  have hpl := h_1
  refine y_top (show r_2 = (row * 32 + 0) from by omega) ?_
  refine y_istore_n C [(3, .int (zI (row * 32 + 0))), (0, .ref h), (1, .ref s), (2, .int (zI row))] dX1_takeRow_5 (by decide) rfl ?_
  refine y_aload_n C 2 dX1_takeRow_6 rfl ?_
  refine y_get C fg_X1_34 4 dX1_takeRow_7 rfl rfl ?_
  refine y_iload_n C 0 dX1_takeRow_10 rfl ?_
  refine y_aload_n C 1 dX1_takeRow_11 rfl ?_
  refine y_get C fg_X1_9 0 dX1_takeRow_12 rfl rfl ?_
  refine y_iconst C dX1_takeRow_15 ?_
  refine y_bipush C dX1_takeRow_16 (by decide +kernel) ?_
  refine y_copy C lk_X1_37 5 1 0 [cO h 1 [.ref a0, .ref a1, .ref a2, .ref a3, .ref a4, .ref a5, .int (zI per), .int (zI win), .int (zI cr)], cI cA a0 32 (zC P p (row * 32 + 0) 0 32), cI cA a1 32 d, cI cA a2 32 mm, cO s 4 [.ref b0, .ref b1, .ref b2, .ref b3, .ref b4, .int (zI len), .int (zI lot)], cI cA b0 256 P, cI cA b1 256 Q, cI cA b2 256 M, cI cA b3 6 S] dX1_takeRow_18 rfl rfl rfl ⟨by omega, by omega, by omega, by omega, by omega, by omega, by omega⟩ ⟨by exact Nat.le_of_ble_eq_true rfl, by exact Nat.le_of_ble_eq_true rfl⟩ rfl ?_
  refine y_aload_n C 2 dX1_takeRow_21 rfl ?_
  refine y_get C fg_X1_43 4 dX1_takeRow_22 rfl rfl ?_
  refine y_iload_n C 0 dX1_takeRow_25 rfl ?_
  refine y_aload_n C 1 dX1_takeRow_26 rfl ?_
  refine y_get C fg_X1_15 0 dX1_takeRow_27 rfl rfl ?_
  refine y_iconst C dX1_takeRow_30 ?_
  refine y_bipush C dX1_takeRow_31 (by decide +kernel) ?_
  refine y_copy C lk_X1_37 6 2 0 [cO h 1 [.ref a0, .ref a1, .ref a2, .ref a3, .ref a4, .ref a5, .int (zI per), .int (zI win), .int (zI cr)], cI cA a0 32 (zC P p (row * 32 + 0) 0 32), cI cA a1 32 (zC Q d (row * 32 + 0) 0 32), cI cA a2 32 mm, cO s 4 [.ref b0, .ref b1, .ref b2, .ref b3, .ref b4, .int (zI len), .int (zI lot)], cI cA b0 256 P, cI cA b1 256 Q, cI cA b2 256 M, cI cA b3 6 S] dX1_takeRow_33 rfl rfl rfl ⟨by omega, by omega, by omega, by omega, by omega, by omega, by omega⟩ ⟨by exact Nat.le_of_ble_eq_true rfl, by exact Nat.le_of_ble_eq_true rfl⟩ rfl ?_
  refine y_aload_n C 2 dX1_takeRow_36 rfl ?_
  refine y_get C fg_X1_44 4 dX1_takeRow_37 rfl rfl ?_
  refine y_iload_n C 0 dX1_takeRow_40 rfl ?_
  refine y_aload_n C 1 dX1_takeRow_41 rfl ?_
  refine y_get C fg_X1_18 0 dX1_takeRow_42 rfl rfl ?_
  refine y_iconst C dX1_takeRow_45 ?_
  refine y_bipush C dX1_takeRow_46 (by decide +kernel) ?_
  refine y_copy C lk_X1_37 7 3 0 [cO h 1 [.ref a0, .ref a1, .ref a2, .ref a3, .ref a4, .ref a5, .int (zI per), .int (zI win), .int (zI cr)], cI cA a0 32 (zC P p (row * 32 + 0) 0 32), cI cA a1 32 (zC Q d (row * 32 + 0) 0 32), cI cA a2 32 (zC M mm (row * 32 + 0) 0 32), cO s 4 [.ref b0, .ref b1, .ref b2, .ref b3, .ref b4, .int (zI len), .int (zI lot)], cI cA b0 256 P, cI cA b1 256 Q, cI cA b2 256 M, cI cA b3 6 S] dX1_takeRow_48 rfl rfl rfl ⟨by omega, by omega, by omega, by omega, by omega, by omega, by omega⟩ ⟨by exact Nat.le_of_ble_eq_true rfl, by exact Nat.le_of_ble_eq_true rfl⟩ rfl ?_
  refine y_aload_n C 1 dX1_takeRow_51 rfl ?_
  refine y_aload_n C 2 dX1_takeRow_52 rfl ?_
  refine y_get C fg_X1_45 4 dX1_takeRow_53 rfl rfl ?_
  refine y_iconst C dX1_takeRow_56 ?_
  refine y_iald C 8 0 dX1_takeRow_57 rfl rfl ⟨by omega, by omega, by omega⟩ ?_
  refine y_top (show (S 0) = (u 0) from by omega) ?_
  refine y_put C fp_X1_48 0 [cO h 1 [.ref a0, .ref a1, .ref a2, .ref a3, .ref a4, .ref a5, .int (zI (u 0)), .int (zI win), .int (zI cr)], cI cA a0 32 (zC P p (row * 32 + 0) 0 32), cI cA a1 32 (zC Q d (row * 32 + 0) 0 32), cI cA a2 32 (zC M mm (row * 32 + 0) 0 32), cO s 4 [.ref b0, .ref b1, .ref b2, .ref b3, .ref b4, .int (zI len), .int (zI lot)], cI cA b0 256 P, cI cA b1 256 Q, cI cA b2 256 M, cI cA b3 6 S] dX1_takeRow_58 rfl rfl rfl (by exact Nat.le_of_ble_eq_true rfl) rfl ?_
  refine y_aload_n C 1 dX1_takeRow_61 rfl ?_
  refine y_aload_n C 2 dX1_takeRow_62 rfl ?_
  refine y_get C fg_X1_45 4 dX1_takeRow_63 rfl rfl ?_
  refine y_iconst C dX1_takeRow_66 ?_
  refine y_iald C 8 0 dX1_takeRow_67 rfl rfl ⟨by omega, by omega, by omega⟩ ?_
  refine y_top (show (S 2) = (u 2) from by omega) ?_
  refine y_put C fp_X1_52 0 [cO h 1 [.ref a0, .ref a1, .ref a2, .ref a3, .ref a4, .ref a5, .int (zI (u 0)), .int (zI (u 2)), .int (zI cr)], cI cA a0 32 (zC P p (row * 32 + 0) 0 32), cI cA a1 32 (zC Q d (row * 32 + 0) 0 32), cI cA a2 32 (zC M mm (row * 32 + 0) 0 32), cO s 4 [.ref b0, .ref b1, .ref b2, .ref b3, .ref b4, .int (zI len), .int (zI lot)], cI cA b0 256 P, cI cA b1 256 Q, cI cA b2 256 M, cI cA b3 6 S] dX1_takeRow_68 rfl rfl rfl (by exact Nat.le_of_ble_eq_true rfl) rfl ?_
  refine y_aload_n C 1 dX1_takeRow_71 rfl ?_
  refine y_aload_n C 2 dX1_takeRow_72 rfl ?_
  refine y_get C fg_X1_45 4 dX1_takeRow_73 rfl rfl ?_
  refine y_iconst C dX1_takeRow_76 ?_
  refine y_iald C 8 0 dX1_takeRow_77 rfl rfl ⟨by omega, by omega, by omega⟩ ?_
  refine y_iconst C dX1_takeRow_78 ?_
  refine y_icmp_ne C 86 dX1_takeRow_79 (by decide) ⟨⟨by omega, by omega⟩, ⟨by omega, by omega⟩⟩ (fun c_3 => ?_) (fun c_3 => ?_)
  · refine y_iconst C dX1_takeRow_86 ?_
    refine y_top (show (0 : Int) = (u 3) from by omega) ?_
    refine y_put C fp_X1_55 0 [cO h 1 [.ref a0, .ref a1, .ref a2, .ref a3, .ref a4, .ref a5, .int (zI (u 0)), .int (zI (u 2)), .int (zI (u 3))], cI cA a0 32 (zC P p (row * 32 + 0) 0 32), cI cA a1 32 (zC Q d (row * 32 + 0) 0 32), cI cA a2 32 (zC M mm (row * 32 + 0) 0 32), cO s 4 [.ref b0, .ref b1, .ref b2, .ref b3, .ref b4, .int (zI len), .int (zI lot)], cI cA b0 256 P, cI cA b1 256 Q, cI cA b2 256 M, cI cA b3 6 S] dX1_takeRow_87 rfl (zbn (by omega)) (zbf (by omega)) (by exact Nat.le_of_ble_eq_true rfl) rfl ?_
    refine hret _ _ _ dX1_takeRow_90 ⟨(zC P p (row * 32 + 0) 0 32), (zC Q d (row * 32 + 0) 0 32), (zC M mm (row * 32 + 0) 0 32), rfl, ?_⟩
    show (∀ k : Int, 0 ≤ k → k < 32 → (zC P p (row * 32 + 0) 0 32) k = zp u row k) ∧ (∀ k : Int, 0 ≤ k → k < 32 → (zC Q d (row * 32 + 0) 0 32) k = zd u row k) ∧ (∀ k : Int, 0 ≤ k → k < 32 → (zC M mm (row * 32 + 0) 0 32) k = zk u row k)
    exact ⟨fun k h0 h1 => by rw [zC_in h0 (by omega), show row * 32 + 0 + (k - 0) = row * 32 + k by omega]; exact (zp_of hRP hrow h0 h1).1, fun k h0 h1 => by rw [zC_in h0 (by omega), show row * 32 + 0 + (k - 0) = row * 32 + k by omega]; exact (zd_of hRQ hrow h0 h1).1, fun k h0 h1 => by rw [zC_in h0 (by omega), show row * 32 + 0 + (k - 0) = row * 32 + k by omega]; exact (zk_of hRM hrow h0 h1).1⟩
  · refine y_iconst C dX1_takeRow_82 ?_
    refine y_goto C 87 dX1_takeRow_83 (by decide) ?_
    refine y_top (show (1 : Int) = (u 3) from by omega) ?_
    refine y_put C fp_X1_55 0 [cO h 1 [.ref a0, .ref a1, .ref a2, .ref a3, .ref a4, .ref a5, .int (zI (u 0)), .int (zI (u 2)), .int (zI (u 3))], cI cA a0 32 (zC P p (row * 32 + 0) 0 32), cI cA a1 32 (zC Q d (row * 32 + 0) 0 32), cI cA a2 32 (zC M mm (row * 32 + 0) 0 32), cO s 4 [.ref b0, .ref b1, .ref b2, .ref b3, .ref b4, .int (zI len), .int (zI lot)], cI cA b0 256 P, cI cA b1 256 Q, cI cA b2 256 M, cI cA b3 6 S] dX1_takeRow_87 rfl (zbn (by omega)) (zbf (by omega)) (by exact Nat.le_of_ble_eq_true rfl) rfl ?_
    refine hret _ _ _ dX1_takeRow_90 ⟨(zC P p (row * 32 + 0) 0 32), (zC Q d (row * 32 + 0) 0 32), (zC M mm (row * 32 + 0) 0 32), rfl, ?_⟩
    show (∀ k : Int, 0 ≤ k → k < 32 → (zC P p (row * 32 + 0) 0 32) k = zp u row k) ∧ (∀ k : Int, 0 ≤ k → k < 32 → (zC Q d (row * 32 + 0) 0 32) k = zd u row k) ∧ (∀ k : Int, 0 ≤ k → k < 32 → (zC M mm (row * 32 + 0) 0 32) k = zk u row k)
    exact ⟨fun k h0 h1 => by rw [zC_in h0 (by omega), show row * 32 + 0 + (k - 0) = row * 32 + k by omega]; exact (zp_of hRP hrow h0 h1).1, fun k h0 h1 => by rw [zC_in h0 (by omega), show row * 32 + 0 + (k - 0) = row * 32 + k by omega]; exact (zd_of hRQ hrow h0 h1).1, fun k h0 h1 => by rw [zC_in h0 (by omega), show row * 32 + 0 + (k - 0) = row * 32 + k by omega]; exact (zk_of hRM hrow h0 h1).1⟩

set_option maxHeartbeats 4000000 in
set_option maxRecDepth 100000 in
theorem m_X1_putRow {l : Launch} {D : va_G} {cA cB : ClassId} {h a0 a1 a2 a3 a4 a5 : Nat} {per win cr : Int} {s b0 b1 b2 b3 b4 : Nat} {len lot : Int} {p d mm P Q M : Int → Int} {row : Int} (hrow : 0 ≤ row ∧ row < 8) : MV l yX1_putRow cX1_putRow 4 { frames := 1, cells := 0, slots := 0, locals := 22 } D (zT cA cB) [.ref h, .ref s, .int (zI row)] [cO h 1 [.ref a0, .ref a1, .ref a2, .ref a3, .ref a4, .ref a5, .int (zI per), .int (zI win), .int (zI cr)], cI cA a0 32 p, cI cA a1 32 d, cI cA a2 32 mm, cO s 4 [.ref b0, .ref b1, .ref b2, .ref b3, .ref b4, .int (zI len), .int (zI lot)], cI cA b0 256 P, cI cA b1 256 Q, cI cA b2 256 M] (fun w => ∃ (P2 : Int → Int), ∃ (Q2 : Int → Int), ∃ (M2 : Int → Int), w = [cO h 1 [.ref a0, .ref a1, .ref a2, .ref a3, .ref a4, .ref a5, .int (zI per), .int (zI win), .int (zI cr)], cI cA a0 32 p, cI cA a1 32 d, cI cA a2 32 mm, cO s 4 [.ref b0, .ref b1, .ref b2, .ref b3, .ref b4, .int (zI len), .int (zI lot)], cI cA b0 256 P2, cI cA b1 256 Q2, cI cA b2 256 M2] ∧ (∀ k : Int, P2 k = putR p P row k) ∧ (∀ k : Int, Q2 k = putR d Q row k) ∧ (∀ k : Int, M2 k = putR mm M row k)) := by
  refine MV.of RX1 ⟨rfl, by decide +kernel⟩ (Nat.le_of_ble_eq_true rfl) ?_
  intro K C hret
  change K 0 0 _ [(0, .ref h), (1, .ref s), (2, .int (zI row))] 0 []
  refine y_iload_n C 2 dX1_putRow_0 rfl ?_
  refine y_iconst C dX1_putRow_1 ?_
  refine y_pcallsN C (m_X5_placeOf (l := l) (D := D) (cA := cA) (cB := cB) (x := row) (y := 0) ) lk_X1_30 [] [0, 1, 2, 3, 4, 5, 6, 7] [0, 1, 2, 3, 4, 5, 6, 7] ⟨rfl, rfl, by decide, by decide, by decide⟩ ⟨rfl, by decide⟩ dX1_putRow_2 rfl rfl ⟨by exact Nat.le_of_ble_eq_true rfl, by exact Nat.le_of_ble_eq_true rfl, rfl, rfl, by exact Nat.le_of_ble_eq_true rfl, by exact Nat.le_of_ble_eq_true rfl, by exact Nat.le_of_ble_eq_true rfl⟩ (fun r_2 h_1 => ?_)
  have hpl := h_1
  refine y_top (show r_2 = (row * 32 + 0) from by omega) ?_
  refine y_istore_n C [(3, .int (zI (row * 32 + 0))), (0, .ref h), (1, .ref s), (2, .int (zI row))] dX1_putRow_5 (by decide) rfl ?_
  refine y_aload_n C 1 dX1_putRow_6 rfl ?_
  refine y_get C fg_X1_9 0 dX1_putRow_7 rfl rfl ?_
  refine y_iconst C dX1_putRow_10 ?_
  refine y_aload_n C 2 dX1_putRow_11 rfl ?_
  refine y_get C fg_X1_34 4 dX1_putRow_12 rfl rfl ?_
  refine y_iload_n C 0 dX1_putRow_15 rfl ?_
  refine y_bipush C dX1_putRow_16 (by decide +kernel) ?_
  refine y_copy C lk_X1_37 1 5 0 [cO h 1 [.ref a0, .ref a1, .ref a2, .ref a3, .ref a4, .ref a5, .int (zI per), .int (zI win), .int (zI cr)], cI cA a0 32 p, cI cA a1 32 d, cI cA a2 32 mm, cO s 4 [.ref b0, .ref b1, .ref b2, .ref b3, .ref b4, .int (zI len), .int (zI lot)], cI cA b0 256 (zC p P 0 (row * 32 + 0) 32), cI cA b1 256 Q, cI cA b2 256 M] dX1_putRow_18 rfl rfl rfl ⟨by omega, by omega, by omega, by omega, by omega, by omega, by omega⟩ ⟨by exact Nat.le_of_ble_eq_true rfl, by exact Nat.le_of_ble_eq_true rfl⟩ rfl ?_
  refine y_aload_n C 1 dX1_putRow_21 rfl ?_
  refine y_get C fg_X1_15 0 dX1_putRow_22 rfl rfl ?_
  refine y_iconst C dX1_putRow_25 ?_
  refine y_aload_n C 2 dX1_putRow_26 rfl ?_
  refine y_get C fg_X1_43 4 dX1_putRow_27 rfl rfl ?_
  refine y_iload_n C 0 dX1_putRow_30 rfl ?_
  refine y_bipush C dX1_putRow_31 (by decide +kernel) ?_
  refine y_copy C lk_X1_37 2 6 0 [cO h 1 [.ref a0, .ref a1, .ref a2, .ref a3, .ref a4, .ref a5, .int (zI per), .int (zI win), .int (zI cr)], cI cA a0 32 p, cI cA a1 32 d, cI cA a2 32 mm, cO s 4 [.ref b0, .ref b1, .ref b2, .ref b3, .ref b4, .int (zI len), .int (zI lot)], cI cA b0 256 (zC p P 0 (row * 32 + 0) 32), cI cA b1 256 (zC d Q 0 (row * 32 + 0) 32), cI cA b2 256 M] dX1_putRow_33 rfl rfl rfl ⟨by omega, by omega, by omega, by omega, by omega, by omega, by omega⟩ ⟨by exact Nat.le_of_ble_eq_true rfl, by exact Nat.le_of_ble_eq_true rfl⟩ rfl ?_
  refine y_aload_n C 1 dX1_putRow_36 rfl ?_
  refine y_get C fg_X1_18 0 dX1_putRow_37 rfl rfl ?_
  refine y_iconst C dX1_putRow_40 ?_
  refine y_aload_n C 2 dX1_putRow_41 rfl ?_
  refine y_get C fg_X1_44 4 dX1_putRow_42 rfl rfl ?_
  refine y_iload_n C 0 dX1_putRow_45 rfl ?_
  refine y_bipush C dX1_putRow_46 (by decide +kernel) ?_
  refine y_copy C lk_X1_37 3 7 0 [cO h 1 [.ref a0, .ref a1, .ref a2, .ref a3, .ref a4, .ref a5, .int (zI per), .int (zI win), .int (zI cr)], cI cA a0 32 p, cI cA a1 32 d, cI cA a2 32 mm, cO s 4 [.ref b0, .ref b1, .ref b2, .ref b3, .ref b4, .int (zI len), .int (zI lot)], cI cA b0 256 (zC p P 0 (row * 32 + 0) 32), cI cA b1 256 (zC d Q 0 (row * 32 + 0) 32), cI cA b2 256 (zC mm M 0 (row * 32 + 0) 32)] dX1_putRow_48 rfl rfl rfl ⟨by omega, by omega, by omega, by omega, by omega, by omega, by omega⟩ ⟨by exact Nat.le_of_ble_eq_true rfl, by exact Nat.le_of_ble_eq_true rfl⟩ rfl ?_
  refine hret _ _ _ dX1_putRow_51 ⟨(zC p P 0 (row * 32 + 0) 32), (zC d Q 0 (row * 32 + 0) 32), (zC mm M 0 (row * 32 + 0) 32), rfl, ?_⟩
  show (∀ k : Int, (zC p P 0 (row * 32 + 0) 32) k = putR p P row k) ∧ (∀ k : Int, (zC d Q 0 (row * 32 + 0) 32) k = putR d Q row k) ∧ (∀ k : Int, (zC mm M 0 (row * 32 + 0) 32) k = putR mm M row k)
  exact ⟨fun k => putR_zC, fun k => putR_zC, fun k => putR_zC⟩

set_option maxHeartbeats 4000000 in
set_option maxRecDepth 100000 in
theorem m_X1_forgetSmudges {l : Launch} {D : va_G} {cA cB : ClassId} {h a0 a1 a2 a3 a4 a5 : Nat} {per win cr : Int} {mm : Int → Int}  : MV l yX1_forgetSmudges cX1_forgetSmudges 1 { frames := 1, cells := 0, slots := 0, locals := 23 } D (zT cA cB) [.ref h] [cO h 1 [.ref a0, .ref a1, .ref a2, .ref a3, .ref a4, .ref a5, .int (zI per), .int (zI win), .int (zI cr)], cI cA a2 32 mm] (fun w => ∃ (mm2 : Int → Int), w = [cO h 1 [.ref a0, .ref a1, .ref a2, .ref a3, .ref a4, .ref a5, .int (zI per), .int (zI win), .int (zI cr)], cI cA a2 32 mm2] ∧ (∀ k : Int, 0 ≤ k → k < 32 → mm2 k = -4)) := by
  refine MV.of RX1 ⟨rfl, by decide +kernel⟩ (Nat.le_of_ble_eq_true rfl) ?_
  intro K C hret
  change K 0 0 _ [(0, .ref h)] 0 []
  refine y_aload_n C 0 dX1_forgetSmudges_0 rfl ?_
  refine y_get C fg_X1_18 0 dX1_forgetSmudges_1 rfl rfl ?_
  refine y_bipush C dX1_forgetSmudges_4 (by decide +kernel) ?_
  refine y_mcallvs C (m_J7_fill_53178 (l := l) (D := D) (cA := cA) (cB := cB) (a := a2) (N := 32) (g := mm) (v := (-4)) (by first | assumption | omega | exact ⟨by omega, by omega⟩) (by first | assumption | omega | exact ⟨by omega, by omega⟩)) lk_X1_73 [1] [0] ⟨rfl, rfl, by decide, by decide, by decide⟩ dX1_forgetSmudges_6 rfl rfl ⟨by exact Nat.le_of_ble_eq_true rfl, by exact Nat.le_of_ble_eq_true rfl, rfl, rfl, by exact Nat.le_of_ble_eq_true rfl, by exact Nat.le_of_ble_eq_true rfl, by exact Nat.le_of_ble_eq_true rfl⟩ (fun w_4 h_1 => ?_)
  obtain ⟨g2_3, rfl, h_1⟩ := h_1
  refine ⟨[0, 1], [cO h 1 [.ref a0, .ref a1, .ref a2, .ref a3, .ref a4, .ref a5, .int (zI per), .int (zI win), .int (zI cr)], cI cA a2 32 g2_3], ⟨rfl, by decide⟩, ?_⟩
  have hfl := h_1
  refine hret _ _ _ dX1_forgetSmudges_9 ⟨g2_3, rfl, ?_⟩
  show (∀ k : Int, 0 ≤ k → k < 32 → g2_3 k = -4)
  exact fun k h0 h1 => hfl k h0 (by omega)

set_option maxHeartbeats 4000000 in
set_option maxRecDepth 100000 in
theorem m_X1_reverse {l : Launch} {D : va_G} {cA cB : ClassId} {a : Nat} {f : Int → Int}  : MV l yX1_reverse cX1_reverse 4 { frames := 0, cells := 0, slots := 0, locals := 0 } D (zT cA cB) [.ref a] [cI cA a 32 f] (fun w => ∃ (g2 : Int → Int), w = [cI cA a 32 g2] ∧ (∀ k : Int, 0 ≤ k → k < 32 → g2 k = f (31 - k))) := by
  refine MV.of RX1 ⟨rfl, by decide +kernel⟩ (Nat.le_of_ble_eq_true rfl) ?_
  intro K C hret
  change K 0 0 _ [(0, .ref a)] 0 []
  refine y_iconst C dX1_reverse_0 ?_
  refine y_istore_n C [(1, .int (zI 0)), (0, .ref a)] dX1_reverse_1 (by decide) rfl ?_
  refine y_aload_n C 1 dX1_reverse_2 rfl ?_
  refine y_alen C 0 0 dX1_reverse_3 rfl rfl ?_
  refine y_iconst C dX1_reverse_4 ?_
  refine y_isub C dX1_reverse_5 ?_
  refine y_istore_n C [(2, .int (zI (32 - 1))), (1, .int (zI 0)), (0, .ref a)] dX1_reverse_6 (by decide) rfl ?_
  refine y_lsub C [2, 1, 0] (lv' := [(0, .ref a), (1, .int (zI 0)), (2, .int (zI (32 - 1)))]) rfl ?_
  suffices hL7 : ∀ (fu : Nat) (i : Int) (j : Int) (g : Int → Int), (0 ≤ i ∧ i ≤ 16 ∧ j = 31 - i) → (∀ k : Int, 0 ≤ k → k < 32 → g k = if k < i ∨ j < k then f (31 - k) else f k) → (20 - i).toNat < fu → K 0 0 [cI cA a 32 g] [(0, .ref a), (1, .int (zI i)), (2, .int (zI j))] 7 [] from hL7 _ 0 (32 - 1) f (by exact ⟨by omega, by omega, by omega⟩) (by intro k h1 h2; rw [if_neg (by omega)]) (Nat.lt_succ_self _)
  intro f7
  induction f7 with
  | zero => exact fun _ _ _ _ _ hf => absurd hf (Nat.not_lt_zero _)
  | succ f7 ih7 =>
    intro i j g hi hg hf7
    refine y_iload_n C 1 dX1_reverse_7 rfl ?_
    refine y_iload_n C 2 dX1_reverse_8 rfl ?_
    refine y_icmp_ge C 35 dX1_reverse_9 (by decide) ⟨⟨by omega, by omega⟩, ⟨by omega, by omega⟩⟩ (fun c_1 => ?_) (fun c_1 => ?_)
    · refine hret _ _ _ dX1_reverse_35 ⟨g, rfl, ?_⟩
      show (∀ k : Int, 0 ≤ k → k < 32 → g k = f (31 - k))
      intro k h1 h2
      rw [hg k h1 h2]
      split
      · rfl
      · congr 1; omega
    · refine y_aload_n C 0 dX1_reverse_12 rfl ?_
      refine y_iload_n C 1 dX1_reverse_13 rfl ?_
      refine y_iald C 0 0 dX1_reverse_14 rfl rfl ⟨by omega, by omega, by omega⟩ ?_
      refine y_istore_n C [(3, .int (zI (g i))), (0, .ref a), (1, .int (zI i)), (2, .int (zI j))] dX1_reverse_15 (by decide) rfl ?_
      refine y_aload_n C 1 dX1_reverse_16 rfl ?_
      refine y_iload_n C 2 dX1_reverse_17 rfl ?_
      refine y_aload_n C 1 dX1_reverse_18 rfl ?_
      refine y_iload_n C 3 dX1_reverse_19 rfl ?_
      refine y_iald C 0 0 dX1_reverse_20 rfl rfl ⟨by omega, by omega, by omega⟩ ?_
      refine y_iast C 0 0 [cI cA a 32 (zU g i (g j))] dX1_reverse_21 rfl rfl ⟨by omega, by omega, by omega⟩ rfl ?_
      refine y_aload_n C 1 dX1_reverse_22 rfl ?_
      refine y_iload_n C 3 dX1_reverse_23 rfl ?_
      refine y_iload_n C 0 dX1_reverse_24 rfl ?_
      refine y_iast C 0 0 [cI cA a 32 (zU (zU g i (g j)) j (g i))] dX1_reverse_25 rfl rfl ⟨by omega, by omega, by omega⟩ rfl ?_
      refine y_iinc C 2 [(1, .int (zI (i + 1))), (3, .int (zI (g i))), (0, .ref a), (2, .int (zI j))] dX1_reverse_26 rfl (by decide) rfl ?_
      refine y_iinc C 3 [(2, .int (zI (j + (-1)))), (1, .int (zI (i + 1))), (3, .int (zI (g i))), (0, .ref a)] dX1_reverse_29 rfl (by decide) rfl ?_
      refine y_goto C 7 dX1_reverse_32 (by decide) ?_
      refine y_lsub C [3, 1, 0] (lv' := [(0, .ref a), (1, .int (zI (i + 1))), (2, .int (zI (j + (-1))))]) rfl ?_
      exact ih7 (i + 1) (j + (-1)) (zU (zU g i (g j)) j (g i)) (by omega) (by intro k h1 h2; have e1 := hg i (by omega) (by omega); have e2 := hg j (by omega) (by omega); rw [if_neg (by omega)] at e1 e2; have e3 := hg k h1 h2; unfold zU; rw [e1, e2, e3]; (repeat' split) <;> first | rfl | (exfalso; omega) | (congr 1; omega)) (by omega)

set_option maxHeartbeats 4000000 in
set_option maxRecDepth 100000 in
theorem m_X1_turnRound {l : Launch} {D : va_G} {cA cB : ClassId} {h a0 a1 a2 a3 a4 a5 : Nat} {per win cr : Int} {p d mm : Int → Int}  : MV l yX1_turnRound cX1_turnRound 1 { frames := 1, cells := 0, slots := 0, locals := 23 } D (zT cA cB) [.ref h] [cO h 1 [.ref a0, .ref a1, .ref a2, .ref a3, .ref a4, .ref a5, .int (zI per), .int (zI win), .int (zI cr)], cI cA a0 32 p, cI cA a1 32 d, cI cA a2 32 mm] (fun w => ∃ (p2 : Int → Int), ∃ (d2 : Int → Int), ∃ (mm2 : Int → Int), w = [cO h 1 [.ref a0, .ref a1, .ref a2, .ref a3, .ref a4, .ref a5, .int (zI per), .int (zI win), .int (zI cr)], cI cA a0 32 p2, cI cA a1 32 d2, cI cA a2 32 mm2] ∧ (∀ k : Int, 0 ≤ k → k < 32 → p2 k = p (31 - k)) ∧ (∀ k : Int, 0 ≤ k → k < 32 → d2 k = d (31 - k)) ∧ (∀ k : Int, 0 ≤ k → k < 32 → mm2 k = mm (31 - k))) := by
  refine MV.of RX1 ⟨rfl, by decide +kernel⟩ (Nat.le_of_ble_eq_true rfl) ?_
  intro K C hret
  change K 0 0 _ [(0, .ref h)] 0 []
  refine y_aload_n C 0 dX1_turnRound_0 rfl ?_
  refine y_get C fg_X1_9 0 dX1_turnRound_1 rfl rfl ?_
  refine y_mcallvs C (m_X1_reverse (l := l) (D := D) (cA := cA) (cB := cB) (a := a0) (f := p) ) lk_X1_69 [1] [0, 2, 3] ⟨rfl, rfl, by decide, by decide, by decide⟩ dX1_turnRound_4 rfl rfl ⟨by exact Nat.le_of_ble_eq_true rfl, by exact Nat.le_of_ble_eq_true rfl, rfl, rfl, by exact Nat.le_of_ble_eq_true rfl, by exact Nat.le_of_ble_eq_true rfl, by exact Nat.le_of_ble_eq_true rfl⟩ (fun w_4 h_1 => ?_)
  obtain ⟨g2_3, rfl, h_1⟩ := h_1
  refine ⟨[0, 3, 1, 2], [cO h 1 [.ref a0, .ref a1, .ref a2, .ref a3, .ref a4, .ref a5, .int (zI per), .int (zI win), .int (zI cr)], cI cA a0 32 g2_3, cI cA a1 32 d, cI cA a2 32 mm], ⟨rfl, by decide⟩, ?_⟩
  have hv1 := h_1
  refine y_aload_n C 0 dX1_turnRound_7 rfl ?_
  refine y_get C fg_X1_15 0 dX1_turnRound_8 rfl rfl ?_
  refine y_mcallvs C (m_X1_reverse (l := l) (D := D) (cA := cA) (cB := cB) (a := a1) (f := d) ) lk_X1_69 [2] [0, 1, 3] ⟨rfl, rfl, by decide, by decide, by decide⟩ dX1_turnRound_11 rfl rfl ⟨by exact Nat.le_of_ble_eq_true rfl, by exact Nat.le_of_ble_eq_true rfl, rfl, rfl, by exact Nat.le_of_ble_eq_true rfl, by exact Nat.le_of_ble_eq_true rfl, by exact Nat.le_of_ble_eq_true rfl⟩ (fun w_8 h_5 => ?_)
  obtain ⟨g2_7, rfl, h_5⟩ := h_5
  refine ⟨[0, 1, 3, 2], [cO h 1 [.ref a0, .ref a1, .ref a2, .ref a3, .ref a4, .ref a5, .int (zI per), .int (zI win), .int (zI cr)], cI cA a0 32 g2_3, cI cA a1 32 g2_7, cI cA a2 32 mm], ⟨rfl, by decide⟩, ?_⟩
  have hv2 := h_5
  refine y_aload_n C 0 dX1_turnRound_14 rfl ?_
  refine y_get C fg_X1_18 0 dX1_turnRound_15 rfl rfl ?_
  refine y_mcallvs C (m_X1_reverse (l := l) (D := D) (cA := cA) (cB := cB) (a := a2) (f := mm) ) lk_X1_69 [3] [0, 1, 2] ⟨rfl, rfl, by decide, by decide, by decide⟩ dX1_turnRound_18 rfl rfl ⟨by exact Nat.le_of_ble_eq_true rfl, by exact Nat.le_of_ble_eq_true rfl, rfl, rfl, by exact Nat.le_of_ble_eq_true rfl, by exact Nat.le_of_ble_eq_true rfl, by exact Nat.le_of_ble_eq_true rfl⟩ (fun w_12 h_9 => ?_)
  obtain ⟨g2_11, rfl, h_9⟩ := h_9
  refine ⟨[0, 1, 2, 3], [cO h 1 [.ref a0, .ref a1, .ref a2, .ref a3, .ref a4, .ref a5, .int (zI per), .int (zI win), .int (zI cr)], cI cA a0 32 g2_3, cI cA a1 32 g2_7, cI cA a2 32 g2_11], ⟨rfl, by decide⟩, ?_⟩
  have hv3 := h_9
  refine hret _ _ _ dX1_turnRound_21 ⟨g2_3, g2_7, g2_11, rfl, ?_⟩
  show (∀ k : Int, 0 ≤ k → k < 32 → g2_3 k = p (31 - k)) ∧ (∀ k : Int, 0 ≤ k → k < 32 → g2_7 k = d (31 - k)) ∧ (∀ k : Int, 0 ≤ k → k < 32 → g2_11 k = mm (31 - k))
  exact ⟨hv1, hv2, hv3⟩

set_option maxHeartbeats 4000000 in
set_option maxRecDepth 100000 in
theorem m_X1_study {l : Launch} {D : va_G} {cA cB : ClassId} {h a0 a1 a2 a3 a4 a5 : Nat} {per win cr : Int} {s b0 b1 b2 b3 b4 : Nat} {len lot : Int} {u p d mm sn bd ch P Q M S : Int → Int} {row : Int} (hrow : 0 ≤ row ∧ row < 8) (hRS : RS u S) (hRP : RP u P) (hRQ : RQ u Q) (hRM : RM u M) : MV l yX1_study cX1_study 3 { frames := 4, cells := 0, slots := 0, locals := 89 } D (zT cA cB) [.ref h, .ref s, .int (zI row)] [cO h 1 [.ref a0, .ref a1, .ref a2, .ref a3, .ref a4, .ref a5, .int (zI per), .int (zI win), .int (zI cr)], cI cA a0 32 p, cI cA a1 32 d, cI cA a2 32 mm, cI cA a3 32 sn, cI cA a4 32 bd, cI cA a5 32 ch, cO s 4 [.ref b0, .ref b1, .ref b2, .ref b3, .ref b4, .int (zI len), .int (zI lot)], cI cA b0 256 P, cI cA b1 256 Q, cI cA b2 256 M, cI cA b3 6 S] (fun w => ∃ (p4 : Int → Int), ∃ (d4 : Int → Int), ∃ (mm4 : Int → Int), ∃ (sn4 : Int → Int), ∃ (bd4 : Int → Int), ∃ (ch4 : Int → Int), w = [cO h 1 [.ref a0, .ref a1, .ref a2, .ref a3, .ref a4, .ref a5, .int (zI (u 0)), .int (zI (u 2)), .int (zI (u 3))], cI cA a0 32 p4, cI cA a1 32 d4, cI cA a2 32 mm4, cI cA a3 32 sn4, cI cA a4 32 bd4, cI cA a5 32 ch4, cO s 4 [.ref b0, .ref b1, .ref b2, .ref b3, .ref b4, .int (zI len), .int (zI lot)], cI cA b0 256 P, cI cA b1 256 Q, cI cA b2 256 M, cI cA b3 6 S] ∧ (∀ k : Int, 0 ≤ k → k < 32 → p4 k = zp u row k) ∧ (∀ k : Int, 0 ≤ k → k < 32 → d4 k = zd u row k) ∧ (∀ k : Int, 0 ≤ k → k < 32 → mm4 k = zk u row k) ∧ (∀ k : Int, 0 ≤ k → k < 32 → sn4 k = seeR u row k) ∧ (∀ k : Int, 0 ≤ k → k < 32 → bd4 k = bndR u row k) ∧ (∀ k : Int, 0 ≤ k → k < 32 → ch4 k = chnR u row k)) := by
  refine MV.of RX1 ⟨rfl, by decide +kernel⟩ (Nat.le_of_ble_eq_true rfl) ?_
  intro K C hret
  change K 0 0 _ [(0, .ref h), (1, .ref s), (2, .int (zI row))] 0 []
  refine y_aload_n C 0 dX1_study_0 rfl ?_
  refine y_aload_n C 1 dX1_study_1 rfl ?_
  refine y_iload_n C 2 dX1_study_2 rfl ?_
  refine y_mcallv C (m_X1_takeRow (l := l) (D := D) (cA := cA) (cB := cB) (h := h) (a0 := a0) (a1 := a1) (a2 := a2) (a3 := a3) (a4 := a4) (a5 := a5) (per := per) (win := win) (cr := cr) (s := s) (b0 := b0) (b1 := b1) (b2 := b2) (b3 := b3) (b4 := b4) (len := len) (lot := lot) (p := p) (d := d) (mm := mm) (P := P) (Q := Q) (M := M) (S := S) (row := row) (by first | assumption | omega | exact ⟨by omega, by omega⟩) (by first | assumption | omega | exact ⟨by omega, by omega⟩) (by first | assumption | omega | exact ⟨by omega, by omega⟩) (by first | assumption | omega | exact ⟨by omega, by omega⟩) (by first | assumption | omega | exact ⟨by omega, by omega⟩)) lk_X1_59 [0, 1, 2, 3, 7, 8, 9, 10, 11] [4, 5, 6] ⟨rfl, rfl, by decide, by decide, by decide⟩ (jb := 0) rfl rfl dX1_study_3 rfl rfl ⟨by exact Nat.le_of_ble_eq_true rfl, by exact Nat.le_of_ble_eq_true rfl, rfl, rfl, by exact Nat.le_of_ble_eq_true rfl, by exact Nat.le_of_ble_eq_true rfl, by exact Nat.le_of_ble_eq_true rfl⟩ (fun w_6 h_1 => ?_)
  obtain ⟨p2_3, d2_4, mm2_5, rfl, h_1⟩ := h_1
  refine ⟨[3, 4, 5, 6, 0, 1, 2, 7, 8, 9, 10, 11], [cO h 1 [.ref a0, .ref a1, .ref a2, .ref a3, .ref a4, .ref a5, .int (zI (u 0)), .int (zI (u 2)), .int (zI (u 3))], cI cA a0 32 p2_3, cI cA a1 32 d2_4, cI cA a2 32 mm2_5, cI cA a3 32 sn, cI cA a4 32 bd, cI cA a5 32 ch, cO s 4 [.ref b0, .ref b1, .ref b2, .ref b3, .ref b4, .int (zI len), .int (zI lot)], cI cA b0 256 P, cI cA b1 256 Q, cI cA b2 256 M, cI cA b3 6 S], ⟨rfl, by decide⟩, ?_⟩
  obtain ⟨hp2, hd2, hm2⟩ := h_1
  have hu := hRS.2
  have hp3 : ∀ k : Int, 0 ≤ k → k < 32 → 0 ≤ p2_3 k ∧ p2_3 k ≤ 4 := fun k h0 h1 => by rw [hp2 k h0 h1]; exact (zp_of hRP hrow h0 h1).2
  have hd3 : ∀ k : Int, 0 ≤ k → k < 32 → 0 ≤ d2_4 k ∧ d2_4 k ≤ 7 := fun k h0 h1 => by rw [hd2 k h0 h1]; exact (zd_of hRQ hrow h0 h1).2
  refine y_aload_n C 0 dX1_study_6 rfl ?_
  refine y_mcallv C (m_X1_bind (l := l) (D := D) (cA := cA) (cB := cB) (h := h) (a0 := a0) (a1 := a1) (a2 := a2) (a3 := a3) (a4 := a4) (a5 := a5) (per := u 0) (win := u 2) (cr := u 3) (p := p2_3) (bd := bd) (ch := ch) (by first | assumption | omega | exact ⟨by omega, by omega⟩) (by first | assumption | omega | exact ⟨by omega, by omega⟩)) lk_X1_63 [0, 1, 5, 6] [2, 3, 4, 7, 8, 9, 10, 11] ⟨rfl, rfl, by decide, by decide, by decide⟩ (jb := 0) rfl rfl dX1_study_7 rfl rfl ⟨by exact Nat.le_of_ble_eq_true rfl, by exact Nat.le_of_ble_eq_true rfl, rfl, rfl, by exact Nat.le_of_ble_eq_true rfl, by exact Nat.le_of_ble_eq_true rfl, by exact Nat.le_of_ble_eq_true rfl⟩ (fun w_11 h_7 => ?_)
  obtain ⟨bd2_9, ch2_10, rfl, h_7⟩ := h_7
  refine ⟨[8, 9, 0, 1, 2, 10, 11, 3, 4, 5, 6, 7], [cO h 1 [.ref a0, .ref a1, .ref a2, .ref a3, .ref a4, .ref a5, .int (zI (u 0)), .int (zI (u 2)), .int (zI (u 3))], cI cA a0 32 p2_3, cI cA a1 32 d2_4, cI cA a2 32 mm2_5, cI cA a3 32 sn, cI cA a4 32 bd2_9, cI cA a5 32 ch2_10, cO s 4 [.ref b0, .ref b1, .ref b2, .ref b3, .ref b4, .int (zI len), .int (zI lot)], cI cA b0 256 P, cI cA b1 256 Q, cI cA b2 256 M, cI cA b3 6 S], ⟨rfl, by decide⟩, ?_⟩
  obtain ⟨hb2, hc2⟩ := h_7
  refine y_aload_n C 0 dX1_study_10 rfl ?_
  refine y_mcallv C (m_X1_watch (l := l) (D := D) (cA := cA) (cB := cB) (h := h) (a0 := a0) (a1 := a1) (a2 := a2) (a3 := a3) (a4 := a4) (a5 := a5) (per := u 0) (win := u 2) (cr := u 3) (d := d2_4) (sn := sn) (by first | assumption | omega | exact ⟨by omega, by omega⟩) (by first | assumption | omega | exact ⟨by omega, by omega⟩) (by first | assumption | omega | exact ⟨by omega, by omega⟩) (by first | assumption | omega | exact ⟨by omega, by omega⟩)) lk_X1_66 [0, 2, 4] [1, 3, 5, 6, 7, 8, 9, 10, 11] ⟨rfl, rfl, by decide, by decide, by decide⟩ (jb := 0) rfl rfl dX1_study_11 rfl rfl ⟨by exact Nat.le_of_ble_eq_true rfl, by exact Nat.le_of_ble_eq_true rfl, rfl, rfl, by exact Nat.le_of_ble_eq_true rfl, by exact Nat.le_of_ble_eq_true rfl, by exact Nat.le_of_ble_eq_true rfl⟩ (fun w_15 h_12 => ?_)
  obtain ⟨sn2_14, rfl, h_12⟩ := h_12
  refine ⟨[9, 0, 10, 1, 11, 2, 3, 4, 5, 6, 7, 8], [cO h 1 [.ref a0, .ref a1, .ref a2, .ref a3, .ref a4, .ref a5, .int (zI (u 0)), .int (zI (u 2)), .int (zI (u 3))], cI cA a0 32 p2_3, cI cA a1 32 d2_4, cI cA a2 32 mm2_5, cI cA a3 32 sn2_14, cI cA a4 32 bd2_9, cI cA a5 32 ch2_10, cO s 4 [.ref b0, .ref b1, .ref b2, .ref b3, .ref b4, .int (zI len), .int (zI lot)], cI cA b0 256 P, cI cA b1 256 Q, cI cA b2 256 M, cI cA b3 6 S], ⟨rfl, by decide⟩, ?_⟩
  have hs2 := h_12
  refine hret _ _ _ dX1_study_14 ⟨p2_3, d2_4, mm2_5, sn2_14, bd2_9, ch2_10, rfl, ?_⟩
  show (∀ k : Int, 0 ≤ k → k < 32 → p2_3 k = zp u row k) ∧ (∀ k : Int, 0 ≤ k → k < 32 → d2_4 k = zd u row k) ∧ (∀ k : Int, 0 ≤ k → k < 32 → mm2_5 k = zk u row k) ∧ (∀ k : Int, 0 ≤ k → k < 32 → sn2_14 k = seeR u row k) ∧ (∀ k : Int, 0 ≤ k → k < 32 → bd2_9 k = bndR u row k) ∧ (∀ k : Int, 0 ≤ k → k < 32 → ch2_10 k = chnR u row k)
  exact ⟨hp2, hd2, hm2, fun k h0 h1 => by rw [hs2 k h0 h1]; exact seeZ_congr hd2 hu.1.1, fun k h0 h1 => by rw [hb2 k h0 h1]; exact bndZ_congr hp2, fun k h0 h1 => by rw [hc2 k h0 h1]; exact chZ_congr (fun k h0 h1 => by have := hp3 k h0 h1; have := hu.1.1; omega) hp2 ⟨h0, h1⟩⟩
