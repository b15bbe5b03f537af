set_option maxHeartbeats 4000000 in
set_option maxRecDepth 100000 in
theorem m_X2_add {l : Launch} {D : va_G} {cA cB : ClassId} {pd pc pr : Nat} {cd : Int → Int} {pl : Int} {ch : Int} (hpl : 0 ≤ pl ∧ pl ≤ 80) : MI l yX2_add cX2_add 2 .boolean { frames := 0, cells := 0, slots := 0, locals := 0 } D (zT cA cB) [.ref pd, .int (zI ch)] [cO pd 2 [.ref pc, .ref pr, .int (zI pl)], cI cA pc 80 cd] (fun r w => ∃ (pl2 : Int), ∃ (cd2 : Int → Int), w = [cO pd 2 [.ref pc, .ref pr, .int (zI pl2)], cI cA pc 80 cd2] ∧ ((r = 1 ∧ pl < 80 ∧ pl2 = pl + 1 ∧ cd2 = zU cd pl ch) ∨ (r = 0 ∧ 80 ≤ pl ∧ pl2 = pl ∧ cd2 = cd))) := by
  refine MI.of RX2 ⟨rfl, by decide +kernel⟩ (Or.inr rfl) (Nat.le_of_ble_eq_true rfl) (fun _ r w h => by obtain ⟨_, _, -, h⟩ := h; omega) ?_
  intro K C hret
  change K 0 0 _ [(0, .ref pd), (1, .int (zI ch))] 0 []
  refine y_aload_n C 0 dX2_add_0 rfl ?_
  refine y_get C fg_X2_22 0 dX2_add_1 rfl rfl ?_
  refine y_bipush C dX2_add_4 (by decide +kernel) ?_
  refine y_icmp_lt C 11 dX2_add_6 (by decide) ⟨⟨by omega, by omega⟩, ⟨by omega, by omega⟩⟩ (fun c_1 => ?_) (fun c_1 => ?_)
  · refine y_aload_n C 0 dX2_add_11 rfl ?_
    refine y_get C fg_X2_9 0 dX2_add_12 rfl rfl ?_
    refine y_aload_n C 0 dX2_add_15 rfl ?_
    refine y_get C fg_X2_22 0 dX2_add_16 rfl rfl ?_
    refine y_iload_n C 1 dX2_add_19 rfl ?_
    refine y_iast C 1 0 [cO pd 2 [.ref pc, .ref pr, .int (zI pl)], cI cA pc 80 (zU cd pl ch)] dX2_add_20 rfl rfl ⟨by omega, by omega, by omega⟩ rfl ?_
    refine y_aload_n C 0 dX2_add_21 rfl ?_
    refine y_dup C dX2_add_22 rfl ?_
    refine y_get C fg_X2_22 0 dX2_add_23 rfl rfl ?_
    refine y_iconst C dX2_add_26 ?_
    refine y_iadd C dX2_add_27 ?_
    refine y_put C fp_X2_22 0 [cO pd 2 [.ref pc, .ref pr, .int (zI (pl + 1))], cI cA pc 80 (zU cd pl ch)] dX2_add_28 rfl rfl rfl (by exact Nat.le_of_ble_eq_true rfl) rfl ?_
    refine y_iconst C dX2_add_31 ?_
    refine hret _ _ _ _ dX2_add_32 ⟨(pl + 1), (zU cd pl ch), rfl, ?_⟩
    show ((1 = 1 ∧ pl < 80 ∧ (pl + 1) = pl + 1 ∧ (zU cd pl ch) = zU cd pl ch) ∨ (1 = 0 ∧ 80 ≤ pl ∧ (pl + 1) = pl ∧ (zU cd pl ch) = cd))
    exact Or.inl ⟨rfl, by omega, rfl, rfl⟩
  · refine y_iconst C dX2_add_9 ?_
    refine hret _ _ _ _ dX2_add_10 ⟨pl, cd, rfl, ?_⟩
    show ((0 = 1 ∧ pl < 80 ∧ pl = pl + 1 ∧ cd = zU cd pl ch) ∨ (0 = 0 ∧ 80 ≤ pl ∧ pl = pl ∧ cd = cd))
    exact Or.inr ⟨rfl, by omega, rfl, rfl⟩

set_option maxHeartbeats 4000000 in
set_option maxRecDepth 100000 in
theorem m_X2_faultAsStrip {l : Launch} {D : va_G} {cA cB : ClassId} {pd pc pr : Nat} {cd : Int → Int} {pl : Int} (hpl : 0 ≤ pl ∧ pl ≤ 80) (hcd : ∀ k : Int, 0 ≤ k → k < 80 → 0 ≤ cd k ∧ cd k ≤ 126) : MI l yX2_faultAsStrip cX2_faultAsStrip 2 .int { frames := 1, cells := 0, slots := 0, locals := 20 } D (zT cA cB) [.ref pd] [cO pd 2 [.ref pc, .ref pr, .int (zI pl)], cI cA pc 80 cd] (fun r w => w = [cO pd 2 [.ref pc, .ref pr, .int (zI pl)], cI cA pc 80 cd] ∧ r = ftZ cd pl ∧ -4 ≤ r ∧ r ≤ 80) := by
  refine MI.of RX2 ⟨rfl, by decide +kernel⟩ (Or.inl rfl) (Nat.le_of_ble_eq_true rfl) (fun h => by cases h) ?_
  intro K C hret
  change K 0 0 _ [(0, .ref pd)] 0 []
  refine y_iconst C dX2_faultAsStrip_0 ?_
  refine y_istore_n C [(1, .int (zI 0)), (0, .ref pd)] dX2_faultAsStrip_1 (by decide) rfl ?_
  refine y_lsub C [1, 0] (lv' := [(0, .ref pd), (1, .int (zI 0))]) rfl ?_
  suffices hL2 : ∀ (fu : Nat) (i : Int), (0 ≤ i ∧ i ≤ pl) → (∀ j : Int, 0 ≤ j → j < i → okD cd j) → (90 - i).toNat < fu → K 0 0 [cO pd 2 [.ref pc, .ref pr, .int (zI pl)], cI cA pc 80 cd] [(0, .ref pd), (1, .int (zI i))] 2 [] from hL2 _ 0 (by omega) (by intro j a b; omega) (Nat.lt_succ_self _)
  intro f2
  induction f2 with
  | zero => exact fun _ _ _ hf => absurd hf (Nat.not_lt_zero _)
  | succ f2 ih2 =>
    intro i hi hs hf2
    refine y_iload_n C 1 dX2_faultAsStrip_2 rfl ?_
    refine y_aload_n C 0 dX2_faultAsStrip_3 rfl ?_
    refine y_get C fg_X2_22 0 dX2_faultAsStrip_4 rfl rfl ?_
    refine y_icmp_ge C 39 dX2_faultAsStrip_7 (by decide) ⟨⟨by omega, by omega⟩, ⟨by omega, by omega⟩⟩ (fun c_1 => ?_) (fun c_1 => ?_)
    · refine y_aload_n C 0 dX2_faultAsStrip_39 rfl ?_
      refine y_get C fg_X2_22 0 dX2_faultAsStrip_40 rfl rfl ?_
      refine y_if_le C 51 dX2_faultAsStrip_43 (by decide) ⟨by omega, by omega⟩ (fun c_2 => ?_) (fun c_2 => ?_)
      · refine y_aload_n C 0 dX2_faultAsStrip_51 rfl ?_
        refine y_get C fg_X2_22 0 dX2_faultAsStrip_52 rfl rfl ?_
        refine hret _ _ _ _ dX2_faultAsStrip_55 ⟨rfl, ?_⟩
        show pl = ftZ cd pl ∧ -4 ≤ pl ∧ pl ≤ 80
        exact ⟨(ftZ_of (Or.inr ⟨fun j a b => hs j a (by omega), by omega⟩)).symm, by omega, by omega⟩
      · refine y_bipush C dX2_faultAsStrip_46 (by decide +kernel) ?_
        refine y_goto C 55 dX2_faultAsStrip_48 (by decide) ?_
        refine hret _ _ _ _ dX2_faultAsStrip_55 ⟨rfl, ?_⟩
        show (-4) = ftZ cd pl ∧ -4 ≤ (-4) ∧ (-4) ≤ 80
        exact ⟨(ftZ_of (Or.inr ⟨fun j a b => hs j a (by omega), by omega⟩)).symm, by omega, by omega⟩
    · refine y_iload_n C 1 dX2_faultAsStrip_10 rfl ?_
      refine y_bipush C dX2_faultAsStrip_11 (by decide +kernel) ?_
      refine y_icmp_ge C 31 dX2_faultAsStrip_13 (by decide) ⟨⟨by omega, by omega⟩, ⟨by omega, by omega⟩⟩ (fun c_3 => ?_) (fun c_3 => ?_)
      · refine y_iload_n C 1 dX2_faultAsStrip_31 rfl ?_
        refine hret _ _ _ _ dX2_faultAsStrip_32 ⟨rfl, ?_⟩
        show i = ftZ cd pl ∧ -4 ≤ i ∧ i ≤ 80
        exact ⟨(ftZ_of (Or.inl ⟨by omega, by omega, fun z => by unfold okD at z; omega, hs⟩)).symm, by omega, by omega⟩
      · refine y_aload_n C 0 dX2_faultAsStrip_16 rfl ?_
        refine y_get C fg_X2_9 0 dX2_faultAsStrip_17 rfl rfl ?_
        refine y_iload_n C 1 dX2_faultAsStrip_20 rfl ?_
        refine y_iald C 1 0 dX2_faultAsStrip_21 rfl rfl ⟨by omega, by omega, by omega⟩ ?_
        have g_4 := hcd i (by omega) (by omega)
        refine y_bipush C dX2_faultAsStrip_22 (by decide +kernel) ?_
        refine y_isub C dX2_faultAsStrip_24 ?_
        refine y_pcallsN C (m_X5_isDot (l := l) (D := D) (cA := cA) (cB := cB) (x := (cd i) - 48) (by exact ⟨by omega, by omega⟩)) lk_X2_26 [] [0, 1] [0, 1] ⟨rfl, rfl, by decide, by decide, by decide⟩ ⟨rfl, by decide⟩ dX2_faultAsStrip_25 rfl rfl ⟨by exact Nat.le_of_ble_eq_true rfl, by exact Nat.le_of_ble_eq_true rfl, rfl, rfl, by exact Nat.le_of_ble_eq_true rfl, by exact Nat.le_of_ble_eq_true rfl, by exact Nat.le_of_ble_eq_true rfl⟩ (fun r_6 h_5 => ?_)
        have hk := h_5
        refine y_if_ne C 33 dX2_faultAsStrip_28 (by decide) ⟨by omega, by omega⟩ (fun c_7 => ?_) (fun c_7 => ?_)
        · refine y_iinc C 1 [(1, .int (zI (i + 1))), (0, .ref pd)] dX2_faultAsStrip_33 rfl (by decide) rfl ?_
          refine y_goto C 2 dX2_faultAsStrip_36 (by decide) ?_
          refine y_lsub C [1, 0] (lv' := [(0, .ref pd), (1, .int (zI (i + 1)))]) rfl ?_
          exact ih2 (i + 1) (by omega) (by intro j a b; exact (show j < i ∨ j = i from by omega).elim (fun e => hs j a e) (fun e => by subst e; unfold okD; omega)) (by omega)
        · refine y_iload_n C 1 dX2_faultAsStrip_31 rfl ?_
          refine hret _ _ _ _ dX2_faultAsStrip_32 ⟨rfl, ?_⟩
          show i = ftZ cd pl ∧ -4 ≤ i ∧ i ≤ 80
          exact ⟨(ftZ_of (Or.inl ⟨by omega, by omega, fun z => by unfold okD at z; omega, hs⟩)).symm, by omega, by omega⟩

set_option maxHeartbeats 4000000 in
set_option maxRecDepth 100000 in
theorem m_X2_putStrip {l : Launch} {D : va_G} {cA cB : ClassId} {pd pc pr : Nat} {cd : Int → Int} {pl : Int} {s b0 b1 b2 b3 b4 : Nat} {len lot : Int} {T : Int → Int} (hpl : 0 ≤ pl ∧ pl ≤ 24) (hcd : ∀ k : Int, 0 ≤ k → k < 80 → 0 ≤ cd k ∧ cd k ≤ 126) : MV l yX2_putStrip cX2_putStrip 4 { frames := 1, cells := 0, slots := 0, locals := 17 } D (zT cA cB) [.ref pd, .ref s] [cO pd 2 [.ref pc, .ref pr, .int (zI pl)], cI cA pc 80 cd, cO s 4 [.ref b0, .ref b1, .ref b2, .ref b3, .ref b4, .int (zI len), .int (zI lot)], cI cA b4 24 T] (fun w => ∃ (len2 : Int), ∃ (T2 : Int → Int), w = [cO pd 2 [.ref pc, .ref pr, .int (zI pl)], cI cA pc 80 cd, cO s 4 [.ref b0, .ref b1, .ref b2, .ref b3, .ref b4, .int (zI len2), .int (zI lot)], cI cA b4 24 T2] ∧ (len2 = pl) ∧ (∀ k : Int, 0 ≤ k → k < 24 → T2 k = if k < pl then cd k - 48 else T k)) := by
  refine MV.of RX2 ⟨rfl, by decide +kernel⟩ (Nat.le_of_ble_eq_true rfl) ?_
  intro K C hret
  change K 0 0 _ [(0, .ref pd), (1, .ref s)] 0 []
  refine y_aload_n C 0 dX2_putStrip_0 rfl ?_
  refine y_get C fg_X2_22 0 dX2_putStrip_1 rfl rfl ?_
  refine y_bipush C dX2_putStrip_4 (by decide +kernel) ?_
  refine y_min C lk_X2_30 dX2_putStrip_6 ⟨⟨by omega, by omega⟩, ⟨by omega, by omega⟩⟩ ⟨by exact Nat.le_of_ble_eq_true rfl, by exact Nat.le_of_ble_eq_true rfl, by exact Nat.le_of_ble_eq_true rfl, by exact Nat.le_of_ble_eq_true rfl⟩ (fun z_2 m_1 => ?_)
  refine y_istore_n C [(2, .int (zI z_2)), (0, .ref pd), (1, .ref s)] dX2_putStrip_9 (by decide) rfl ?_
  refine y_iconst C dX2_putStrip_10 ?_
  refine y_istore_n C [(3, .int (zI 0)), (2, .int (zI z_2)), (0, .ref pd), (1, .ref s)] dX2_putStrip_11 (by decide) rfl ?_
  refine y_lsub C [2, 3, 1, 0] (lv' := [(0, .ref pd), (1, .ref s), (2, .int (zI z_2)), (3, .int (zI 0))]) rfl ?_
  suffices hL12 : ∀ (fu : Nat) (i : Int) (T1 : Int → Int), (0 ≤ i ∧ i ≤ pl) → (∀ k : Int, 0 ≤ k → k < 24 → T1 k = if k < i then cd k - 48 else T k) → (90 - i).toNat < fu → K 0 0 [cO pd 2 [.ref pc, .ref pr, .int (zI pl)], cI cA pc 80 cd, cO s 4 [.ref b0, .ref b1, .ref b2, .ref b3, .ref b4, .int (zI len), .int (zI lot)], cI cA b4 24 T1] [(0, .ref pd), (1, .ref s), (2, .int (zI z_2)), (3, .int (zI i))] 12 [] from hL12 _ 0 T (by omega) (by intro k a b; rw [if_neg (by omega)]) (Nat.lt_succ_self _)
  intro f12
  induction f12 with
  | zero => exact fun _ _ _ _ hf => absurd hf (Nat.not_lt_zero _)
  | succ f12 ih12 =>
    intro i T1 hi hT1 hf12
    refine y_iload_n C 3 dX2_putStrip_12 rfl ?_
    refine y_iload_n C 2 dX2_putStrip_13 rfl ?_
    refine y_icmp_ge C 38 dX2_putStrip_14 (by decide) ⟨⟨by omega, by omega⟩, ⟨by omega, by omega⟩⟩ (fun c_3 => ?_) (fun c_3 => ?_)
    · refine y_aload_n C 1 dX2_putStrip_38 rfl ?_
      refine y_iload_n C 2 dX2_putStrip_39 rfl ?_
      refine y_put C fp_X2_41 2 [cO pd 2 [.ref pc, .ref pr, .int (zI pl)], cI cA pc 80 cd, cO s 4 [.ref b0, .ref b1, .ref b2, .ref b3, .ref b4, .int (zI z_2), .int (zI lot)], cI cA b4 24 T1] dX2_putStrip_40 rfl rfl rfl (by exact Nat.le_of_ble_eq_true rfl) rfl ?_
      refine hret _ _ _ dX2_putStrip_43 ⟨z_2, T1, rfl, ?_⟩
      show (z_2 = pl) ∧ (∀ k : Int, 0 ≤ k → k < 24 → T1 k = if k < pl then cd k - 48 else T k)
      obtain rfl : i = pl := by omega
      exact ⟨by omega, hT1⟩
    · refine y_aload_n C 1 dX2_putStrip_17 rfl ?_
      refine y_get C fg_X2_36 2 dX2_putStrip_18 rfl rfl ?_
      refine y_iload_n C 3 dX2_putStrip_21 rfl ?_
      refine y_aload_n C 0 dX2_putStrip_22 rfl ?_
      refine y_get C fg_X2_9 0 dX2_putStrip_23 rfl rfl ?_
      refine y_iload_n C 3 dX2_putStrip_26 rfl ?_
      refine y_iald C 1 0 dX2_putStrip_27 rfl rfl ⟨by omega, by omega, by omega⟩ ?_
      have g_4 := hcd i (by omega) (by omega)
      refine y_bipush C dX2_putStrip_28 (by decide +kernel) ?_
      refine y_isub C dX2_putStrip_30 ?_
      refine y_iast C 3 0 [cO pd 2 [.ref pc, .ref pr, .int (zI pl)], cI cA pc 80 cd, cO s 4 [.ref b0, .ref b1, .ref b2, .ref b3, .ref b4, .int (zI len), .int (zI lot)], cI cA b4 24 (zU T1 i ((cd i) - 48))] dX2_putStrip_31 rfl rfl ⟨by omega, by omega, by omega⟩ rfl ?_
      refine y_iinc C 3 [(3, .int (zI (i + 1))), (0, .ref pd), (1, .ref s), (2, .int (zI z_2))] dX2_putStrip_32 rfl (by decide) rfl ?_
      refine y_goto C 12 dX2_putStrip_35 (by decide) ?_
      refine y_lsub C [1, 2, 3, 0] (lv' := [(0, .ref pd), (1, .ref s), (2, .int (zI z_2)), (3, .int (zI (i + 1)))]) rfl ?_
      exact ih12 (i + 1) (zU T1 i ((cd i) - 48)) (by omega) (by intro k a b; exact (Classical.em (k = i)).elim (fun q => by subst q; rw [zU_s, if_pos (by omega)]) (fun q => by rw [zU_n q, hT1 k a b]; (repeat' split) <;> first | rfl | (exfalso; omega))) (by omega)

set_option maxHeartbeats 4000000 in
set_option maxRecDepth 100000 in
theorem m_X2_faultAsShapes {l : Launch} {D : va_G} {cA cB : ClassId} {pd pc : Nat} {cd : Int → Int} {pl : Int} {pr : Nat} {ta bo le ri pn sg : Int} (hpl : 0 ≤ pl ∧ pl ≤ 80) (hcd : ∀ k : Int, 0 ≤ k → k < 80 → 0 ≤ cd k ∧ cd k ≤ 126) (hzok : Zok ta bo le ri pn sg) : MI l yX2_faultAsShapes cX2_faultAsShapes 2 .int { frames := 4, cells := 0, slots := 0, locals := 86 } D (zT cA cB) [.ref pd] [cO pd 2 [.ref pc, .ref pr, .int (zI pl)], cI cA pc 80 cd, cO pr 3 [.int (zI ta), .int (zI bo), .int (zI le), .int (zI ri), .int (zI pn), .int (zI sg)]] (fun r w => ∃ (ta2 : Int), ∃ (bo2 : Int), ∃ (le2 : Int), ∃ (ri2 : Int), ∃ (pn2 : Int), ∃ (sg2 : Int), w = [cO pd 2 [.ref pc, .ref pr, .int (zI pl)], cI cA pc 80 cd, cO pr 3 [.int (zI ta2), .int (zI bo2), .int (zI le2), .int (zI ri2), .int (zI pn2), .int (zI sg2)]] ∧ (r = fsZ cd pl ∧ -4 ≤ r ∧ r ≤ 80) ∧ (Zok ta2 bo2 le2 ri2 pn2 sg2)) := by
  refine MI.of RX2 ⟨rfl, by decide +kernel⟩ (Or.inl rfl) (Nat.le_of_ble_eq_true rfl) (fun h => by cases h) ?_
  intro K C hret
  change K 0 0 _ [(0, .ref pd)] 0 []
  refine y_aload_n C 0 dX2_faultAsShapes_0 rfl ?_
  refine y_get C fg_X2_18 0 dX2_faultAsShapes_1 rfl rfl ?_
  refine y_mcallv C (m_X3_begin (l := l) (D := D) (cA := cA) (cB := cB) (pr := pr) (ta := ta) (bo := bo) (le := le) (ri := ri) (pn := pn) (sg := sg) ) lk_X2_44 [2] [0, 1] ⟨rfl, rfl, by decide, by decide, by decide⟩ (jb := 0) rfl rfl dX2_faultAsShapes_4 rfl rfl ⟨by exact Nat.le_of_ble_eq_true rfl, by exact Nat.le_of_ble_eq_true rfl, rfl, rfl, by exact Nat.le_of_ble_eq_true rfl, by exact Nat.le_of_ble_eq_true rfl, by exact Nat.le_of_ble_eq_true rfl⟩ (fun w_3 h_1 => ?_)
  obtain ⟨rfl, h_1⟩ := h_1
  refine ⟨[0, 1, 2], [cO pd 2 [.ref pc, .ref pr, .int (zI pl)], cI cA pc 80 cd, cO pr 3 [.int (zI ta), .int (zI bo), .int (zI le), .int (zI ri), .int (zI pn), .int (zI 0)]], ⟨rfl, by decide⟩, ?_⟩
  refine y_iconst C dX2_faultAsShapes_7 ?_
  refine y_istore_n C [(1, .int (zI 0)), (0, .ref pd)] dX2_faultAsShapes_8 (by decide) rfl ?_
  refine y_lsub C [1, 0] (lv' := [(0, .ref pd), (1, .int (zI 0))]) rfl ?_
  suffices hL9 : ∀ (fu : Nat) (i : Int) (ta6 : Int) (bo6 : Int) (le6 : Int) (ri6 : Int) (pn6 : Int) (sg6 : Int), (0 ≤ i ∧ i ≤ pl) → (Zok ta6 bo6 le6 ri6 pn6 sg6) → (RnS cd i ta6 bo6 le6 ri6 pn6 sg6) → (90 - i).toNat < fu → K 0 0 [cO pd 2 [.ref pc, .ref pr, .int (zI pl)], cI cA pc 80 cd, cO pr 3 [.int (zI ta6), .int (zI bo6), .int (zI le6), .int (zI ri6), .int (zI pn6), .int (zI sg6)]] [(0, .ref pd), (1, .int (zI i))] 9 [] from hL9 _ 0 ta bo le ri pn 0 (by omega) (by omega) (by exact RnS_0) (Nat.lt_succ_self _)
  intro f9
  induction f9 with
  | zero => exact fun _ _ _ _ _ _ _ _ _ _ hf => absurd hf (Nat.not_lt_zero _)
  | succ f9 ih9 =>
    intro i ta6 bo6 le6 ri6 pn6 sg6 hi hzk hy hf9
    refine y_iload_n C 1 dX2_faultAsShapes_9 rfl ?_
    refine y_aload_n C 0 dX2_faultAsShapes_10 rfl ?_
    refine y_get C fg_X2_22 0 dX2_faultAsShapes_11 rfl rfl ?_
    refine y_icmp_ge C 41 dX2_faultAsShapes_14 (by decide) ⟨⟨by omega, by omega⟩, ⟨by omega, by omega⟩⟩ (fun c_4 => ?_) (fun c_4 => ?_)
    · refine y_aload_n C 0 dX2_faultAsShapes_41 rfl ?_
      refine y_get C fg_X2_18 0 dX2_faultAsShapes_42 rfl rfl ?_
      refine y_pcall C (m_X3_isComplete (l := l) (D := D) (cA := cA) (cB := cB) (pr := pr) (ta := ta6) (bo := bo6) (le := le6) (ri := ri6) (pn := pn6) (sg := sg6) (by first | assumption | omega | exact ⟨by omega, by omega⟩)) lk_X2_50 [2] [0, 1] [0, 1, 2] ⟨rfl, rfl, by decide, by decide, by decide⟩ ⟨rfl, by decide⟩ rfl rfl dX2_faultAsShapes_45 rfl rfl ⟨by exact Nat.le_of_ble_eq_true rfl, by exact Nat.le_of_ble_eq_true rfl, rfl, rfl, by exact Nat.le_of_ble_eq_true rfl, by exact Nat.le_of_ble_eq_true rfl, by exact Nat.le_of_ble_eq_true rfl⟩ (fun r_6 h_5 => ?_)
      have hc := h_5
      refine y_if_eq C 56 dX2_faultAsShapes_48 (by decide) ⟨by omega, by omega⟩ (fun c_7 => ?_) (fun c_7 => ?_)
      · refine y_aload_n C 0 dX2_faultAsShapes_56 rfl ?_
        refine y_get C fg_X2_22 0 dX2_faultAsShapes_57 rfl rfl ?_
        refine hret _ _ _ _ dX2_faultAsShapes_60 ⟨ta6, bo6, le6, ri6, pn6, sg6, rfl, ?_⟩
        show (pl = fsZ cd pl ∧ -4 ≤ pl ∧ pl ≤ 80) ∧ (Zok ta6 bo6 le6 ri6 pn6 sg6)
        obtain rfl : i = pl := by omega
        rcases hc with hc | hc
        · first | (exfalso; omega) | exact ⟨⟨(fsZ_of hpl.1 (RnS_ok hy hc.2)).symm, by omega, by omega⟩, hzk⟩
        · first | (exfalso; omega) | exact ⟨⟨(fsZ_of hpl.1 (RnS_end hy hc.2)).symm, by omega, by omega⟩, hzk⟩
      · refine y_bipush C dX2_faultAsShapes_51 (by decide +kernel) ?_
        refine y_goto C 60 dX2_faultAsShapes_53 (by decide) ?_
        refine hret _ _ _ _ dX2_faultAsShapes_60 ⟨ta6, bo6, le6, ri6, pn6, sg6, rfl, ?_⟩
        show ((-4) = fsZ cd pl ∧ -4 ≤ (-4) ∧ (-4) ≤ 80) ∧ (Zok ta6 bo6 le6 ri6 pn6 sg6)
        obtain rfl : i = pl := by omega
        rcases hc with hc | hc
        · first | (exfalso; omega) | exact ⟨⟨(fsZ_of hpl.1 (RnS_ok hy hc.2)).symm, by omega, by omega⟩, hzk⟩
        · first | (exfalso; omega) | exact ⟨⟨(fsZ_of hpl.1 (RnS_end hy hc.2)).symm, by omega, by omega⟩, hzk⟩
    · refine y_aload_n C 0 dX2_faultAsShapes_17 rfl ?_
      refine y_get C fg_X2_18 0 dX2_faultAsShapes_18 rfl rfl ?_
      refine y_aload_n C 0 dX2_faultAsShapes_21 rfl ?_
      refine y_get C fg_X2_9 0 dX2_faultAsShapes_22 rfl rfl ?_
      refine y_iload_n C 1 dX2_faultAsShapes_25 rfl ?_
      refine y_iald C 1 0 dX2_faultAsShapes_26 rfl rfl ⟨by omega, by omega, by omega⟩ ?_
      have g_8 := hcd i (by omega) (by omega)
      refine y_mcalli C (m_X3_takes (l := l) (D := D) (cA := cA) (cB := cB) (pr := pr) (ta := ta6) (bo := bo6) (le := le6) (ri := ri6) (pn := pn6) (sg := sg6) (ch := cd i) (by first | assumption | omega | exact ⟨by omega, by omega⟩) (by first | assumption | omega | exact ⟨by omega, by omega⟩)) lk_X2_47 [2] [0, 1] ⟨rfl, rfl, by decide, by decide, by decide⟩ (jb := 0) rfl rfl dX2_faultAsShapes_27 rfl rfl ⟨by exact Nat.le_of_ble_eq_true rfl, by exact Nat.le_of_ble_eq_true rfl, rfl, rfl, by exact Nat.le_of_ble_eq_true rfl, by exact Nat.le_of_ble_eq_true rfl, by exact Nat.le_of_ble_eq_true rfl⟩ (fun r_10 w_17 h_9 => ?_)
      obtain ⟨ta2_11, bo2_12, le2_13, ri2_14, pn2_15, sg2_16, rfl, h_9⟩ := h_9
      refine ⟨[0, 1, 2], [cO pd 2 [.ref pc, .ref pr, .int (zI pl)], cI cA pc 80 cd, cO pr 3 [.int (zI ta2_11), .int (zI bo2_12), .int (zI le2_13), .int (zI ri2_14), .int (zI pn2_15), .int (zI sg2_16)]], ⟨rfl, by decide⟩, ?_⟩
      have hk := (h_9).1
      have hzk2 := (h_9).2
      refine y_if_ne C 35 dX2_faultAsShapes_30 (by decide) ⟨by omega, by omega⟩ (fun c_18 => ?_) (fun c_18 => ?_)
      · have hgo2 := RnS_go (by omega) hy hzk.2.2.2.2.2.1 (by rcases hk with hk | hk; exact hk.2; exfalso; omega)
        refine y_iinc C 1 [(1, .int (zI (i + 1))), (0, .ref pd)] dX2_faultAsShapes_35 rfl (by decide) rfl ?_
        refine y_goto C 9 dX2_faultAsShapes_38 (by decide) ?_
        refine y_lsub C [1, 0] (lv' := [(0, .ref pd), (1, .int (zI (i + 1)))]) rfl ?_
        exact ih9 (i + 1) ta2_11 bo2_12 le2_13 ri2_14 pn2_15 sg2_16 (by omega) (by exact hzk2) (by exact hgo2) (by omega)
      · refine y_iload_n C 1 dX2_faultAsShapes_33 rfl ?_
        refine hret _ _ _ _ dX2_faultAsShapes_34 ⟨ta2_11, bo2_12, le2_13, ri2_14, pn2_15, sg2_16, rfl, ?_⟩
        show (i = fsZ cd pl ∧ -4 ≤ i ∧ i ≤ 80) ∧ (Zok ta2_11 bo2_12 le2_13 ri2_14 pn2_15 sg2_16)
        have hf := fsZ_of hpl.1 (RnS_no (len := pl) hi.1 (by omega) hy hzk.2.2.2.2.2.1 (by rcases hk with hk | hk; exfalso; omega; exact hk.2))
        exact ⟨⟨hf.symm, by omega, by omega⟩, hzk2⟩

set_option maxHeartbeats 4000000 in
set_option maxRecDepth 100000 in
theorem m_X2_layShapes {l : Launch} {D : va_G} {cA cB : ClassId} {pd pc : Nat} {cd : Int → Int} {pl : Int} {pr : Nat} {ta bo le ri pn sg : Int} {s b0 b1 b2 b3 b4 : Nat} {len lot : Int} {u P : Int → Int} (hpl : 0 ≤ pl ∧ pl ≤ 80) (hcd : ∀ k : Int, 0 ≤ k → k < 80 → 0 ≤ cd k ∧ cd k ≤ 126) (hzok : Zok ta bo le ri pn sg) (hRP : RP u P) (hfs : fsZ cd pl = -4) : MV l yX2_layShapes cX2_layShapes 3 { frames := 4, cells := 0, slots := 0, locals := 86 } D (zT cA cB) [.ref pd, .ref s] [cO pd 2 [.ref pc, .ref pr, .int (zI pl)], cI cA pc 80 cd, cO pr 3 [.int (zI ta), .int (zI bo), .int (zI le), .int (zI ri), .int (zI pn), .int (zI sg)], cO s 4 [.ref b0, .ref b1, .ref b2, .ref b3, .ref b4, .int (zI len), .int (zI lot)], cI cA b0 256 P] (fun w => ∃ (ta2 : Int), ∃ (bo2 : Int), ∃ (le2 : Int), ∃ (ri2 : Int), ∃ (pn2 : Int), ∃ (sg2 : Int), ∃ (P2 : Int → Int), w = [cO pd 2 [.ref pc, .ref pr, .int (zI pl)], cI cA pc 80 cd, cO pr 3 [.int (zI ta2), .int (zI bo2), .int (zI le2), .int (zI ri2), .int (zI pn2), .int (zI sg2)], cO s 4 [.ref b0, .ref b1, .ref b2, .ref b3, .ref b4, .int (zI len), .int (zI lot)], cI cA b0 256 P2] ∧ (RP (drZ cd u pl) P2) ∧ (Zok ta2 bo2 le2 ri2 pn2 sg2)) := by
  refine MV.of RX2 ⟨rfl, by decide +kernel⟩ (Nat.le_of_ble_eq_true rfl) ?_
  intro K C hret
  change K 0 0 _ [(0, .ref pd), (1, .ref s)] 0 []
  refine y_aload_n C 0 dX2_layShapes_0 rfl ?_
  refine y_get C fg_X2_18 0 dX2_layShapes_1 rfl rfl ?_
  refine y_mcallv C (m_X3_begin (l := l) (D := D) (cA := cA) (cB := cB) (pr := pr) (ta := ta) (bo := bo) (le := le) (ri := ri) (pn := pn) (sg := sg) ) lk_X2_44 [2] [0, 1, 3, 4] ⟨rfl, rfl, by decide, by decide, by decide⟩ (jb := 0) rfl rfl dX2_layShapes_4 rfl rfl ⟨by exact Nat.le_of_ble_eq_true rfl, by exact Nat.le_of_ble_eq_true rfl, rfl, rfl, by exact Nat.le_of_ble_eq_true rfl, by exact Nat.le_of_ble_eq_true rfl, by exact Nat.le_of_ble_eq_true rfl⟩ (fun w_3 h_1 => ?_)
  obtain ⟨rfl, h_1⟩ := h_1
  refine ⟨[0, 1, 4, 2, 3], [cO pd 2 [.ref pc, .ref pr, .int (zI pl)], cI cA pc 80 cd, cO pr 3 [.int (zI ta), .int (zI bo), .int (zI le), .int (zI ri), .int (zI pn), .int (zI 0)], cO s 4 [.ref b0, .ref b1, .ref b2, .ref b3, .ref b4, .int (zI len), .int (zI lot)], cI cA b0 256 P], ⟨rfl, by decide⟩, ?_⟩
  refine y_iconst C dX2_layShapes_7 ?_
  refine y_istore_n C [(2, .int (zI 0)), (0, .ref pd), (1, .ref s)] dX2_layShapes_8 (by decide) rfl ?_
  refine y_lsub C [1, 2, 0] (lv' := [(0, .ref pd), (1, .ref s), (2, .int (zI 0))]) rfl ?_
  suffices hL9 : ∀ (fu : Nat) (i : Int) (P1 : Int → Int) (ta6 : Int) (bo6 : Int) (le6 : Int) (ri6 : Int) (pn6 : Int) (sg6 : Int), (0 ≤ i ∧ i ≤ pl) → (Zok ta6 bo6 le6 ri6 pn6 sg6) → (RnS cd i ta6 bo6 le6 ri6 pn6 sg6) → (RP (drZ cd u i) P1) → (90 - i).toNat < fu → K 0 0 [cO pd 2 [.ref pc, .ref pr, .int (zI pl)], cI cA pc 80 cd, cO pr 3 [.int (zI ta6), .int (zI bo6), .int (zI le6), .int (zI ri6), .int (zI pn6), .int (zI sg6)], cO s 4 [.ref b0, .ref b1, .ref b2, .ref b3, .ref b4, .int (zI len), .int (zI lot)], cI cA b0 256 P1] [(0, .ref pd), (1, .ref s), (2, .int (zI i))] 9 [] from hL9 _ 0 P ta bo le ri pn 0 (by omega) (by omega) (by exact RnS_0) (by exact hRP) (Nat.lt_succ_self _)
  intro f9
  induction f9 with
  | zero => exact fun _ _ _ _ _ _ _ _ _ _ _ _ hf => absurd hf (Nat.not_lt_zero _)
  | succ f9 ih9 =>
    intro i P1 ta6 bo6 le6 ri6 pn6 sg6 hi hzk hy hP1 hf9
    refine y_iload_n C 2 dX2_layShapes_9 rfl ?_
    refine y_aload_n C 0 dX2_layShapes_10 rfl ?_
    refine y_get C fg_X2_22 0 dX2_layShapes_11 rfl rfl ?_
    refine y_icmp_ge C 88 dX2_layShapes_14 (by decide) ⟨⟨by omega, by omega⟩, ⟨by omega, by omega⟩⟩ (fun c_4 => ?_) (fun c_4 => ?_)
    · refine hret _ _ _ dX2_layShapes_88 ⟨ta6, bo6, le6, ri6, pn6, sg6, P1, rfl, ?_⟩
      show (RP (drZ cd u pl) P1) ∧ (Zok ta6 bo6 le6 ri6 pn6 sg6)
      obtain rfl : i = pl := by omega
      exact ⟨hP1, hzk⟩
    · refine y_aload_n C 0 dX2_layShapes_17 rfl ?_
      refine y_get C fg_X2_18 0 dX2_layShapes_18 rfl rfl ?_
      refine y_aload_n C 0 dX2_layShapes_21 rfl ?_
      refine y_get C fg_X2_9 0 dX2_layShapes_22 rfl rfl ?_
      refine y_iload_n C 2 dX2_layShapes_25 rfl ?_
      refine y_iald C 1 0 dX2_layShapes_26 rfl rfl ⟨by omega, by omega, by omega⟩ ?_
      have g_5 := hcd i (by omega) (by omega)
      refine y_mcalli C (m_X3_takes (l := l) (D := D) (cA := cA) (cB := cB) (pr := pr) (ta := ta6) (bo := bo6) (le := le6) (ri := ri6) (pn := pn6) (sg := sg6) (ch := cd i) (by first | assumption | omega | exact ⟨by omega, by omega⟩) (by first | assumption | omega | exact ⟨by omega, by omega⟩)) lk_X2_47 [2] [0, 1, 3, 4] ⟨rfl, rfl, by decide, by decide, by decide⟩ (jb := 0) rfl rfl dX2_layShapes_27 rfl rfl ⟨by exact Nat.le_of_ble_eq_true rfl, by exact Nat.le_of_ble_eq_true rfl, rfl, rfl, by exact Nat.le_of_ble_eq_true rfl, by exact Nat.le_of_ble_eq_true rfl, by exact Nat.le_of_ble_eq_true rfl⟩ (fun r_7 w_14 h_6 => ?_)
      obtain ⟨ta2_8, bo2_9, le2_10, ri2_11, pn2_12, sg2_13, rfl, h_6⟩ := h_6
      refine ⟨[0, 1, 4, 2, 3], [cO pd 2 [.ref pc, .ref pr, .int (zI pl)], cI cA pc 80 cd, cO pr 3 [.int (zI ta2_8), .int (zI bo2_9), .int (zI le2_10), .int (zI ri2_11), .int (zI pn2_12), .int (zI sg2_13)], cO s 4 [.ref b0, .ref b1, .ref b2, .ref b3, .ref b4, .int (zI len), .int (zI lot)], cI cA b0 256 P1], ⟨rfl, by decide⟩, ?_⟩
      have hk := (h_6).1
      have hzk2 := (h_6).2
      have hk1 : r_7 = 1 := by rcases hk with hk | hk; exact hk.1; exfalso; have hf := fsZ_of hpl.1 (RnS_no (len := pl) hi.1 (by omega) hy hzk.2.2.2.2.2.1 hk.2); omega
      refine y_if_eq C 82 dX2_layShapes_30 (by decide) ⟨by omega, by omega⟩ (fun c_15 => False.elim (by omega)) (fun c_15 => ?_)
      have hgo2 := RnS_go (by omega) hy hzk.2.2.2.2.2.1 (by rcases hk with hk | hk; exact hk.2; exfalso; omega)
      have hdr := RnS_dr (u := u) hi.1 hgo2
      refine y_aload_n C 0 dX2_layShapes_33 rfl ?_
      refine y_get C fg_X2_18 0 dX2_layShapes_34 rfl rfl ?_
      refine y_pcall C (m_X3_isComplete (l := l) (D := D) (cA := cA) (cB := cB) (pr := pr) (ta := ta2_8) (bo := bo2_9) (le := le2_10) (ri := ri2_11) (pn := pn2_12) (sg := sg2_13) (by first | assumption | omega | exact ⟨by omega, by omega⟩)) lk_X2_50 [2] [0, 1, 3, 4] [0, 1, 4, 2, 3] ⟨rfl, rfl, by decide, by decide, by decide⟩ ⟨rfl, by decide⟩ rfl rfl dX2_layShapes_37 rfl rfl ⟨by exact Nat.le_of_ble_eq_true rfl, by exact Nat.le_of_ble_eq_true rfl, rfl, rfl, by exact Nat.le_of_ble_eq_true rfl, by exact Nat.le_of_ble_eq_true rfl, by exact Nat.le_of_ble_eq_true rfl⟩ (fun r_17 h_16 => ?_)
      have hc := h_16
      refine y_if_eq C 82 dX2_layShapes_40 (by decide) ⟨by omega, by omega⟩ (fun c_18 => ?_) (fun c_18 => ?_)
      · refine y_iinc C 2 [(2, .int (zI (i + 1))), (0, .ref pd), (1, .ref s)] dX2_layShapes_82 rfl (by decide) rfl ?_
        refine y_goto C 9 dX2_layShapes_85 (by decide) ?_
        refine y_lsub C [1, 2, 0] (lv' := [(0, .ref pd), (1, .ref s), (2, .int (zI (i + 1)))]) rfl ?_
        exact ih9 (i + 1) P1 ta2_8 bo2_9 le2_10 ri2_11 pn2_12 sg2_13 (by omega) (by exact hzk2) (by exact hgo2) (by first | (rw [hdr, if_pos (by omega)]; exact RP_lay hP1 ⟨by omega, by omega⟩ hlp) | (rw [hdr, if_neg (by omega)]; exact hP1)) (by omega)
      · refine y_aload_n C 1 dX2_layShapes_43 rfl ?_
        refine y_aload_n C 0 dX2_layShapes_44 rfl ?_
        refine y_get C fg_X2_18 0 dX2_layShapes_45 rfl rfl ?_
        refine y_get C fg_X2_54 2 dX2_layShapes_48 rfl rfl ?_
        refine y_aload_n C 0 dX2_layShapes_51 rfl ?_
        refine y_get C fg_X2_18 0 dX2_layShapes_52 rfl rfl ?_
        refine y_get C fg_X2_57 2 dX2_layShapes_55 rfl rfl ?_
        refine y_aload_n C 0 dX2_layShapes_58 rfl ?_
        refine y_get C fg_X2_18 0 dX2_layShapes_59 rfl rfl ?_
        refine y_get C fg_X2_60 2 dX2_layShapes_62 rfl rfl ?_
        refine y_aload_n C 0 dX2_layShapes_65 rfl ?_
        refine y_get C fg_X2_18 0 dX2_layShapes_66 rfl rfl ?_
        refine y_get C fg_X2_63 2 dX2_layShapes_69 rfl rfl ?_
        refine y_aload_n C 0 dX2_layShapes_72 rfl ?_
        refine y_get C fg_X2_18 0 dX2_layShapes_73 rfl rfl ?_
        refine y_get C fg_X2_66 2 dX2_layShapes_76 rfl rfl ?_
        refine y_mcallv C (m_X4_layPlane (l := l) (D := D) (cA := cA) (cB := cB) (s := s) (b0 := b0) (b1 := b1) (b2 := b2) (b3 := b3) (b4 := b4) (len := len) (lot := lot) (P := P1) (top := ta2_8) (left := le2_10) (bottom := bo2_9) (right := ri2_11) (pl := pn2_12) (by first | assumption | omega | exact ⟨by omega, by omega⟩) (by first | assumption | omega | exact ⟨by omega, by omega⟩) (by first | assumption | omega | exact ⟨by omega, by omega⟩)) lk_X2_69 [3, 4] [0, 1, 2] ⟨rfl, rfl, by decide, by decide, by decide⟩ (jb := 0) rfl rfl dX2_layShapes_79 rfl rfl ⟨by exact Nat.le_of_ble_eq_true rfl, by exact Nat.le_of_ble_eq_true rfl, rfl, rfl, by exact Nat.le_of_ble_eq_true rfl, by exact Nat.le_of_ble_eq_true rfl, by exact Nat.le_of_ble_eq_true rfl⟩ (fun w_22 h_19 => ?_)
        obtain ⟨P2_21, rfl, h_19⟩ := h_19
        refine ⟨[0, 1, 2, 3, 4], [cO pd 2 [.ref pc, .ref pr, .int (zI pl)], cI cA pc 80 cd, cO pr 3 [.int (zI ta2_8), .int (zI bo2_9), .int (zI le2_10), .int (zI ri2_11), .int (zI pn2_12), .int (zI sg2_13)], cO s 4 [.ref b0, .ref b1, .ref b2, .ref b3, .ref b4, .int (zI len), .int (zI lot)], cI cA b0 256 P2_21], ⟨rfl, by decide⟩, ?_⟩
        have hlp := h_19
        refine y_iinc C 2 [(2, .int (zI (i + 1))), (0, .ref pd), (1, .ref s)] dX2_layShapes_82 rfl (by decide) rfl ?_
        refine y_goto C 9 dX2_layShapes_85 (by decide) ?_
        refine y_lsub C [1, 2, 0] (lv' := [(0, .ref pd), (1, .ref s), (2, .int (zI (i + 1)))]) rfl ?_
        exact ih9 (i + 1) P2_21 ta2_8 bo2_9 le2_10 ri2_11 pn2_12 sg2_13 (by omega) (by exact hzk2) (by exact hgo2) (by first | (rw [hdr, if_pos (by omega)]; exact RP_lay hP1 ⟨by omega, by omega⟩ hlp) | (rw [hdr, if_neg (by omega)]; exact hP1)) (by omega)
