set_option maxHeartbeats 4000000 in
set_option maxRecDepth 100000 in
theorem m_X3_begin {l : Launch} {D : va_G} {cA cB : ClassId} {pr : Nat} {ta bo le ri pn sg : Int}  : MV l yX3_begin cX3_begin 1 { frames := 0, cells := 0, slots := 0, locals := 0 } D (zT cA cB) [.ref pr] [cO pr 3 [.int (zI ta), .int (zI bo), .int (zI le), .int (zI ri), .int (zI pn), .int (zI sg)]] (fun w => w = [cO pr 3 [.int (zI ta), .int (zI bo), .int (zI le), .int (zI ri), .int (zI pn), .int (zI 0)]] ∧ True) := by
  refine MV.of RX3 ⟨rfl, by decide +kernel⟩ (Nat.le_of_ble_eq_true rfl) ?_
  intro K C hret
  change K 0 0 _ [(0, .ref pr)] 0 []
  refine y_aload_n C 0 dX3_begin_0 rfl ?_
  refine y_iconst C dX3_begin_1 ?_
  refine y_put C fp_X3_11 0 [cO pr 3 [.int (zI ta), .int (zI bo), .int (zI le), .int (zI ri), .int (zI pn), .int (zI 0)]] dX3_begin_2 rfl rfl rfl (by exact Nat.le_of_ble_eq_true rfl) rfl ?_
  refine hret _ _ _ dX3_begin_5 ⟨rfl, trivial⟩

set_option maxHeartbeats 4000000 in
set_option maxRecDepth 100000 in
theorem m_X3_isComplete {l : Launch} {D : va_G} {cA cB : ClassId} {pr : Nat} {ta bo le ri pn sg : Int} (hsg : 0 ≤ sg ∧ sg ≤ 9) : MI l yX3_isComplete cX3_isComplete 1 .boolean { frames := 0, cells := 0, slots := 0, locals := 0 } D (zT cA cB) [.ref pr] [cO pr 3 [.int (zI ta), .int (zI bo), .int (zI le), .int (zI ri), .int (zI pn), .int (zI sg)]] (fun r w => w = [cO pr 3 [.int (zI ta), .int (zI bo), .int (zI le), .int (zI ri), .int (zI pn), .int (zI sg)]] ∧ ((r = 1 ∧ (sg = 9)) ∨ (r = 0 ∧ ¬ (sg = 9)))) := by
  refine MI.of RX3 ⟨rfl, by decide +kernel⟩ (Or.inr rfl) (Nat.le_of_ble_eq_true rfl) (fun _ r w h => by rcases h.2 with h | h; exact Or.inr h.1; exact Or.inl h.1) ?_
  intro K C hret
  change K 0 0 _ [(0, .ref pr)] 0 []
  refine y_aload_n C 0 dX3_isComplete_0 rfl ?_
  refine y_get C fg_X3_11 0 dX3_isComplete_1 rfl rfl ?_
  refine y_bipush C dX3_isComplete_4 (by decide +kernel) ?_
  refine y_icmp_ne C 13 dX3_isComplete_6 (by decide) ⟨⟨by omega, by omega⟩, ⟨by omega, by omega⟩⟩ (fun c_1 => ?_) (fun c_1 => ?_)
  · refine y_iconst C dX3_isComplete_13 ?_
    refine hret _ _ _ _ dX3_isComplete_14 ⟨rfl, ?_⟩
    show ((0 = 1 ∧ (sg = 9)) ∨ (0 = 0 ∧ ¬ (sg = 9)))
    omega
  · refine y_iconst C dX3_isComplete_9 ?_
    refine y_goto C 14 dX3_isComplete_10 (by decide) ?_
    refine hret _ _ _ _ dX3_isComplete_14 ⟨rfl, ?_⟩
    show ((1 = 1 ∧ (sg = 9)) ∨ (1 = 0 ∧ ¬ (sg = 9)))
    omega

set_option maxHeartbeats 4000000 in
set_option maxRecDepth 100000 in
theorem m_X3_goesOn {l : Launch} {D : va_G} {cA cB : ClassId} {pr : Nat} {ta bo le ri pn sg : Int} {nx : Int}  : MI l yX3_goesOn cX3_goesOn 2 .boolean { frames := 0, cells := 0, slots := 0, locals := 0 } D (zT cA cB) [.ref pr, .int (zI nx)] [cO pr 3 [.int (zI ta), .int (zI bo), .int (zI le), .int (zI ri), .int (zI pn), .int (zI sg)]] (fun r w => w = [cO pr 3 [.int (zI ta), .int (zI bo), .int (zI le), .int (zI ri), .int (zI pn), .int (zI nx)]] ∧ (r = 1)) := by
  refine MI.of RX3 ⟨rfl, by decide +kernel⟩ (Or.inr rfl) (Nat.le_of_ble_eq_true rfl) (fun _ r w h => by obtain ⟨-, h⟩ := h; omega) ?_
  intro K C hret
  change K 0 0 _ [(0, .ref pr), (1, .int (zI nx))] 0 []
  refine y_aload_n C 0 dX3_goesOn_0 rfl ?_
  refine y_iload_n C 1 dX3_goesOn_1 rfl ?_
  refine y_put C fp_X3_11 0 [cO pr 3 [.int (zI ta), .int (zI bo), .int (zI le), .int (zI ri), .int (zI pn), .int (zI nx)]] dX3_goesOn_2 rfl rfl rfl (by exact Nat.le_of_ble_eq_true rfl) rfl ?_
  refine y_iconst C dX3_goesOn_5 ?_
  refine hret _ _ _ _ dX3_goesOn_6 ⟨rfl, ?_⟩
  show (1 = 1)
  rfl

set_option maxHeartbeats 4000000 in
set_option maxRecDepth 100000 in
theorem m_X3_takesTop {l : Launch} {D : va_G} {cA cB : ClassId} {pr : Nat} {ta bo le ri pn sg : Int} {dg : Int} (hdg : zR dg) : MI l yX3_takesTop cX3_takesTop 2 .boolean { frames := 1, cells := 0, slots := 0, locals := 21 } D (zT cA cB) [.ref pr, .int (zI dg)] [cO pr 3 [.int (zI ta), .int (zI bo), .int (zI le), .int (zI ri), .int (zI pn), .int (zI sg)]] (fun r w => ∃ (ta2 : Int), ∃ (bo2 : Int), ∃ (le2 : Int), ∃ (ri2 : Int), ∃ (pn2 : Int), ∃ (sg2 : Int), w = [cO pr 3 [.int (zI ta2), .int (zI bo2), .int (zI le2), .int (zI ri2), .int (zI pn2), .int (zI sg2)]] ∧ ((r = 1 ∧ (0 ≤ dg ∧ dg < 8) ∧ ta2 = dg ∧ bo2 = dg ∧ le2 = le ∧ ri2 = ri ∧ pn2 = pn ∧ sg2 = 1) ∨ (r = 0 ∧ ¬ (0 ≤ dg ∧ dg < 8) ∧ ta2 = ta ∧ bo2 = bo ∧ le2 = le ∧ ri2 = ri ∧ pn2 = pn ∧ sg2 = sg))) := by
  refine MI.of RX3 ⟨rfl, by decide +kernel⟩ (Or.inr rfl) (Nat.le_of_ble_eq_true rfl) (fun _ r w h => by obtain ⟨_, _, _, _, _, _, -, h⟩ := h; omega) ?_
  intro K C hret
  change K 0 0 _ [(0, .ref pr), (1, .int (zI dg))] 0 []
  refine y_iload_n C 1 dX3_takesTop_0 rfl ?_
  refine y_pcallsN C (m_X5_isRow (l := l) (D := D) (cA := cA) (cB := cB) (x := dg) (by first | assumption | omega | exact ⟨by omega, by omega⟩)) lk_X3_41 [] [0] [0] ⟨rfl, rfl, by decide, by decide, by decide⟩ ⟨rfl, by decide⟩ dX3_takesTop_1 rfl rfl ⟨by exact Nat.le_of_ble_eq_true rfl, by exact Nat.le_of_ble_eq_true rfl, rfl, rfl, by exact Nat.le_of_ble_eq_true rfl, by exact Nat.le_of_ble_eq_true rfl, by exact Nat.le_of_ble_eq_true rfl⟩ (fun r_2 h_1 => ?_)
  refine y_if_ne C 9 dX3_takesTop_4 (by decide) ⟨by omega, by omega⟩ (fun c_3 => ?_) (fun c_3 => ?_)
  · refine y_aload_n C 0 dX3_takesTop_9 rfl ?_
    refine y_iload_n C 1 dX3_takesTop_10 rfl ?_
    refine y_put C fp_X3_44 0 [cO pr 3 [.int (zI dg), .int (zI bo), .int (zI le), .int (zI ri), .int (zI pn), .int (zI sg)]] dX3_takesTop_11 rfl rfl rfl (by exact Nat.le_of_ble_eq_true rfl) rfl ?_
    refine y_aload_n C 0 dX3_takesTop_14 rfl ?_
    refine y_iload_n C 1 dX3_takesTop_15 rfl ?_
    refine y_put C fp_X3_47 0 [cO pr 3 [.int (zI dg), .int (zI dg), .int (zI le), .int (zI ri), .int (zI pn), .int (zI sg)]] dX3_takesTop_16 rfl rfl rfl (by exact Nat.le_of_ble_eq_true rfl) rfl ?_
    refine y_aload_n C 0 dX3_takesTop_19 rfl ?_
    refine y_iconst C dX3_takesTop_20 ?_
    refine y_mcalli C (m_X3_goesOn (l := l) (D := D) (cA := cA) (cB := cB) (pr := pr) (ta := dg) (bo := dg) (le := le) (ri := ri) (pn := pn) (sg := sg) (nx := 1) ) lk_X3_19 [0] [] ⟨rfl, rfl, by decide, by decide, by decide⟩ (jb := 0) rfl rfl dX3_takesTop_21 rfl rfl ⟨by exact Nat.le_of_ble_eq_true rfl, by exact Nat.le_of_ble_eq_true rfl, rfl, rfl, by exact Nat.le_of_ble_eq_true rfl, by exact Nat.le_of_ble_eq_true rfl, by exact Nat.le_of_ble_eq_true rfl⟩ (fun r_5 w_6 h_4 => ?_)
    obtain ⟨rfl, h_4⟩ := h_4
    refine ⟨[0], [cO pr 3 [.int (zI dg), .int (zI dg), .int (zI le), .int (zI ri), .int (zI pn), .int (zI 1)]], ⟨rfl, by decide⟩, ?_⟩
    have hgo := h_4
    refine hret _ _ _ _ dX3_takesTop_24 ⟨dg, dg, le, ri, pn, 1, rfl, ?_⟩
    show ((r_5 = 1 ∧ (0 ≤ dg ∧ dg < 8) ∧ dg = dg ∧ dg = dg ∧ le = le ∧ ri = ri ∧ pn = pn ∧ 1 = 1) ∨ (r_5 = 0 ∧ ¬ (0 ≤ dg ∧ dg < 8) ∧ dg = ta ∧ dg = bo ∧ le = le ∧ ri = ri ∧ pn = pn ∧ 1 = sg))
    omega
  · refine y_iconst C dX3_takesTop_7 ?_
    refine hret _ _ _ _ dX3_takesTop_8 ⟨ta, bo, le, ri, pn, sg, rfl, ?_⟩
    show ((0 = 1 ∧ (0 ≤ dg ∧ dg < 8) ∧ ta = dg ∧ bo = dg ∧ le = le ∧ ri = ri ∧ pn = pn ∧ sg = 1) ∨ (0 = 0 ∧ ¬ (0 ≤ dg ∧ dg < 8) ∧ ta = ta ∧ bo = bo ∧ le = le ∧ ri = ri ∧ pn = pn ∧ sg = sg))
    omega

set_option maxHeartbeats 4000000 in
set_option maxRecDepth 100000 in
theorem m_X3_takesBottom {l : Launch} {D : va_G} {cA cB : ClassId} {pr : Nat} {ta bo le ri pn sg : Int} {dg : Int} (hdg : zR dg) (hzok : Zok ta bo le ri pn sg) : MI l yX3_takesBottom cX3_takesBottom 2 .boolean { frames := 1, cells := 0, slots := 0, locals := 21 } D (zT cA cB) [.ref pr, .int (zI dg)] [cO pr 3 [.int (zI ta), .int (zI bo), .int (zI le), .int (zI ri), .int (zI pn), .int (zI sg)]] (fun r w => ∃ (ta2 : Int), ∃ (bo2 : Int), ∃ (le2 : Int), ∃ (ri2 : Int), ∃ (pn2 : Int), ∃ (sg2 : Int), w = [cO pr 3 [.int (zI ta2), .int (zI bo2), .int (zI le2), .int (zI ri2), .int (zI pn2), .int (zI sg2)]] ∧ ((r = 1 ∧ ((0 ≤ dg ∧ dg < 8) ∧ ta ≤ dg) ∧ ta2 = ta ∧ bo2 = dg ∧ le2 = le ∧ ri2 = ri ∧ pn2 = pn ∧ sg2 = 3) ∨ (r = 0 ∧ ¬ ((0 ≤ dg ∧ dg < 8) ∧ ta ≤ dg) ∧ ta2 = ta ∧ bo2 = bo ∧ le2 = le ∧ ri2 = ri ∧ pn2 = pn ∧ sg2 = sg))) := by
  refine MI.of RX3 ⟨rfl, by decide +kernel⟩ (Or.inr rfl) (Nat.le_of_ble_eq_true rfl) (fun _ r w h => by obtain ⟨_, _, _, _, _, _, -, h⟩ := h; omega) ?_
  intro K C hret
  change K 0 0 _ [(0, .ref pr), (1, .int (zI dg))] 0 []
  refine y_iload_n C 1 dX3_takesBottom_0 rfl ?_
  refine y_pcallsN C (m_X5_isRow (l := l) (D := D) (cA := cA) (cB := cB) (x := dg) (by first | assumption | omega | exact ⟨by omega, by omega⟩)) lk_X3_41 [] [0] [0] ⟨rfl, rfl, by decide, by decide, by decide⟩ ⟨rfl, by decide⟩ dX3_takesBottom_1 rfl rfl ⟨by exact Nat.le_of_ble_eq_true rfl, by exact Nat.le_of_ble_eq_true rfl, rfl, rfl, by exact Nat.le_of_ble_eq_true rfl, by exact Nat.le_of_ble_eq_true rfl, by exact Nat.le_of_ble_eq_true rfl⟩ (fun r_2 h_1 => ?_)
  refine y_if_eq C 15 dX3_takesBottom_4 (by decide) ⟨by omega, by omega⟩ (fun c_3 => ?_) (fun c_3 => ?_)
  · refine y_iconst C dX3_takesBottom_15 ?_
    refine hret _ _ _ _ dX3_takesBottom_16 ⟨ta, bo, le, ri, pn, sg, rfl, ?_⟩
    show ((0 = 1 ∧ ((0 ≤ dg ∧ dg < 8) ∧ ta ≤ dg) ∧ ta = ta ∧ bo = dg ∧ le = le ∧ ri = ri ∧ pn = pn ∧ sg = 3) ∨ (0 = 0 ∧ ¬ ((0 ≤ dg ∧ dg < 8) ∧ ta ≤ dg) ∧ ta = ta ∧ bo = bo ∧ le = le ∧ ri = ri ∧ pn = pn ∧ sg = sg))
    omega
  · refine y_iload_n C 1 dX3_takesBottom_7 rfl ?_
    refine y_aload_n C 0 dX3_takesBottom_8 rfl ?_
    refine y_get C fg_X3_44 0 dX3_takesBottom_9 rfl rfl ?_
    refine y_icmp_ge C 17 dX3_takesBottom_12 (by decide) ⟨⟨by omega, by omega⟩, ⟨by omega, by omega⟩⟩ (fun c_4 => ?_) (fun c_4 => ?_)
    · refine y_aload_n C 0 dX3_takesBottom_17 rfl ?_
      refine y_iload_n C 1 dX3_takesBottom_18 rfl ?_
      refine y_put C fp_X3_47 0 [cO pr 3 [.int (zI ta), .int (zI dg), .int (zI le), .int (zI ri), .int (zI pn), .int (zI sg)]] dX3_takesBottom_19 rfl rfl rfl (by exact Nat.le_of_ble_eq_true rfl) rfl ?_
      refine y_aload_n C 0 dX3_takesBottom_22 rfl ?_
      refine y_iconst C dX3_takesBottom_23 ?_
      refine y_mcalli C (m_X3_goesOn (l := l) (D := D) (cA := cA) (cB := cB) (pr := pr) (ta := ta) (bo := dg) (le := le) (ri := ri) (pn := pn) (sg := sg) (nx := 3) ) lk_X3_19 [0] [] ⟨rfl, rfl, by decide, by decide, by decide⟩ (jb := 0) rfl rfl dX3_takesBottom_24 rfl rfl ⟨by exact Nat.le_of_ble_eq_true rfl, by exact Nat.le_of_ble_eq_true rfl, rfl, rfl, by exact Nat.le_of_ble_eq_true rfl, by exact Nat.le_of_ble_eq_true rfl, by exact Nat.le_of_ble_eq_true rfl⟩ (fun r_6 w_7 h_5 => ?_)
      obtain ⟨rfl, h_5⟩ := h_5
      refine ⟨[0], [cO pr 3 [.int (zI ta), .int (zI dg), .int (zI le), .int (zI ri), .int (zI pn), .int (zI 3)]], ⟨rfl, by decide⟩, ?_⟩
      have hgo := h_5
      refine hret _ _ _ _ dX3_takesBottom_27 ⟨ta, dg, le, ri, pn, 3, rfl, ?_⟩
      show ((r_6 = 1 ∧ ((0 ≤ dg ∧ dg < 8) ∧ ta ≤ dg) ∧ ta = ta ∧ dg = dg ∧ le = le ∧ ri = ri ∧ pn = pn ∧ 3 = 3) ∨ (r_6 = 0 ∧ ¬ ((0 ≤ dg ∧ dg < 8) ∧ ta ≤ dg) ∧ ta = ta ∧ dg = bo ∧ le = le ∧ ri = ri ∧ pn = pn ∧ 3 = sg))
      omega
    · refine y_iconst C dX3_takesBottom_15 ?_
      refine hret _ _ _ _ dX3_takesBottom_16 ⟨ta, bo, le, ri, pn, sg, rfl, ?_⟩
      show ((0 = 1 ∧ ((0 ≤ dg ∧ dg < 8) ∧ ta ≤ dg) ∧ ta = ta ∧ bo = dg ∧ le = le ∧ ri = ri ∧ pn = pn ∧ sg = 3) ∨ (0 = 0 ∧ ¬ ((0 ≤ dg ∧ dg < 8) ∧ ta ≤ dg) ∧ ta = ta ∧ bo = bo ∧ le = le ∧ ri = ri ∧ pn = pn ∧ sg = sg))
      omega

set_option maxHeartbeats 4000000 in
set_option maxRecDepth 100000 in
theorem m_X3_takesLeft {l : Launch} {D : va_G} {cA cB : ClassId} {pr : Nat} {ta bo le ri pn sg : Int} {dg : Int} (hdg : zR dg) : MI l yX3_takesLeft cX3_takesLeft 2 .boolean { frames := 1, cells := 0, slots := 0, locals := 21 } D (zT cA cB) [.ref pr, .int (zI dg)] [cO pr 3 [.int (zI ta), .int (zI bo), .int (zI le), .int (zI ri), .int (zI pn), .int (zI sg)]] (fun r w => ∃ (ta2 : Int), ∃ (bo2 : Int), ∃ (le2 : Int), ∃ (ri2 : Int), ∃ (pn2 : Int), ∃ (sg2 : Int), w = [cO pr 3 [.int (zI ta2), .int (zI bo2), .int (zI le2), .int (zI ri2), .int (zI pn2), .int (zI sg2)]] ∧ ((r = 1 ∧ (0 ≤ dg ∧ dg < 32) ∧ ta2 = ta ∧ bo2 = bo ∧ le2 = dg ∧ ri2 = dg ∧ pn2 = pn ∧ sg2 = 5) ∨ (r = 0 ∧ ¬ (0 ≤ dg ∧ dg < 32) ∧ ta2 = ta ∧ bo2 = bo ∧ le2 = le ∧ ri2 = ri ∧ pn2 = pn ∧ sg2 = sg))) := by
  refine MI.of RX3 ⟨rfl, by decide +kernel⟩ (Or.inr rfl) (Nat.le_of_ble_eq_true rfl) (fun _ r w h => by obtain ⟨_, _, _, _, _, _, -, h⟩ := h; omega) ?_
  intro K C hret
  change K 0 0 _ [(0, .ref pr), (1, .int (zI dg))] 0 []
  refine y_iload_n C 1 dX3_takesLeft_0 rfl ?_
  refine y_pcallsN C (m_X5_isColumn (l := l) (D := D) (cA := cA) (cB := cB) (x := dg) (by first | assumption | omega | exact ⟨by omega, by omega⟩)) lk_X3_50 [] [0] [0] ⟨rfl, rfl, by decide, by decide, by decide⟩ ⟨rfl, by decide⟩ dX3_takesLeft_1 rfl rfl ⟨by exact Nat.le_of_ble_eq_true rfl, by exact Nat.le_of_ble_eq_true rfl, rfl, rfl, by exact Nat.le_of_ble_eq_true rfl, by exact Nat.le_of_ble_eq_true rfl, by exact Nat.le_of_ble_eq_true rfl⟩ (fun r_2 h_1 => ?_)
  refine y_if_ne C 9 dX3_takesLeft_4 (by decide) ⟨by omega, by omega⟩ (fun c_3 => ?_) (fun c_3 => ?_)
  · refine y_aload_n C 0 dX3_takesLeft_9 rfl ?_
    refine y_iload_n C 1 dX3_takesLeft_10 rfl ?_
    refine y_put C fp_X3_53 0 [cO pr 3 [.int (zI ta), .int (zI bo), .int (zI dg), .int (zI ri), .int (zI pn), .int (zI sg)]] dX3_takesLeft_11 rfl rfl rfl (by exact Nat.le_of_ble_eq_true rfl) rfl ?_
    refine y_aload_n C 0 dX3_takesLeft_14 rfl ?_
    refine y_iload_n C 1 dX3_takesLeft_15 rfl ?_
    refine y_put C fp_X3_56 0 [cO pr 3 [.int (zI ta), .int (zI bo), .int (zI dg), .int (zI dg), .int (zI pn), .int (zI sg)]] dX3_takesLeft_16 rfl rfl rfl (by exact Nat.le_of_ble_eq_true rfl) rfl ?_
    refine y_aload_n C 0 dX3_takesLeft_19 rfl ?_
    refine y_iconst C dX3_takesLeft_20 ?_
    refine y_mcalli C (m_X3_goesOn (l := l) (D := D) (cA := cA) (cB := cB) (pr := pr) (ta := ta) (bo := bo) (le := dg) (ri := dg) (pn := pn) (sg := sg) (nx := 5) ) lk_X3_19 [0] [] ⟨rfl, rfl, by decide, by decide, by decide⟩ (jb := 0) rfl rfl dX3_takesLeft_21 rfl rfl ⟨by exact Nat.le_of_ble_eq_true rfl, by exact Nat.le_of_ble_eq_true rfl, rfl, rfl, by exact Nat.le_of_ble_eq_true rfl, by exact Nat.le_of_ble_eq_true rfl, by exact Nat.le_of_ble_eq_true rfl⟩ (fun r_5 w_6 h_4 => ?_)
    obtain ⟨rfl, h_4⟩ := h_4
    refine ⟨[0], [cO pr 3 [.int (zI ta), .int (zI bo), .int (zI dg), .int (zI dg), .int (zI pn), .int (zI 5)]], ⟨rfl, by decide⟩, ?_⟩
    have hgo := h_4
    refine hret _ _ _ _ dX3_takesLeft_24 ⟨ta, bo, dg, dg, pn, 5, rfl, ?_⟩
    show ((r_5 = 1 ∧ (0 ≤ dg ∧ dg < 32) ∧ ta = ta ∧ bo = bo ∧ dg = dg ∧ dg = dg ∧ pn = pn ∧ 5 = 5) ∨ (r_5 = 0 ∧ ¬ (0 ≤ dg ∧ dg < 32) ∧ ta = ta ∧ bo = bo ∧ dg = le ∧ dg = ri ∧ pn = pn ∧ 5 = sg))
    omega
  · refine y_iconst C dX3_takesLeft_7 ?_
    refine hret _ _ _ _ dX3_takesLeft_8 ⟨ta, bo, le, ri, pn, sg, rfl, ?_⟩
    show ((0 = 1 ∧ (0 ≤ dg ∧ dg < 32) ∧ ta = ta ∧ bo = bo ∧ le = dg ∧ ri = dg ∧ pn = pn ∧ sg = 5) ∨ (0 = 0 ∧ ¬ (0 ≤ dg ∧ dg < 32) ∧ ta = ta ∧ bo = bo ∧ le = le ∧ ri = ri ∧ pn = pn ∧ sg = sg))
    omega

set_option maxHeartbeats 4000000 in
set_option maxRecDepth 100000 in
theorem m_X3_takesPlane {l : Launch} {D : va_G} {cA cB : ClassId} {pr : Nat} {ta bo le ri pn sg : Int} {dg : Int} (hdg : zR dg) : MI l yX3_takesPlane cX3_takesPlane 2 .boolean { frames := 1, cells := 0, slots := 0, locals := 21 } D (zT cA cB) [.ref pr, .int (zI dg)] [cO pr 3 [.int (zI ta), .int (zI bo), .int (zI le), .int (zI ri), .int (zI pn), .int (zI sg)]] (fun r w => ∃ (ta2 : Int), ∃ (bo2 : Int), ∃ (le2 : Int), ∃ (ri2 : Int), ∃ (pn2 : Int), ∃ (sg2 : Int), w = [cO pr 3 [.int (zI ta2), .int (zI bo2), .int (zI le2), .int (zI ri2), .int (zI pn2), .int (zI sg2)]] ∧ ((r = 1 ∧ (0 ≤ dg ∧ dg < 5) ∧ ta2 = ta ∧ bo2 = bo ∧ le2 = le ∧ ri2 = ri ∧ pn2 = dg ∧ sg2 = 9) ∨ (r = 0 ∧ ¬ (0 ≤ dg ∧ dg < 5) ∧ ta2 = ta ∧ bo2 = bo ∧ le2 = le ∧ ri2 = ri ∧ pn2 = pn ∧ sg2 = sg))) := by
  refine MI.of RX3 ⟨rfl, by decide +kernel⟩ (Or.inr rfl) (Nat.le_of_ble_eq_true rfl) (fun _ r w h => by obtain ⟨_, _, _, _, _, _, -, h⟩ := h; omega) ?_
  intro K C hret
  change K 0 0 _ [(0, .ref pr), (1, .int (zI dg))] 0 []
  refine y_iload_n C 1 dX3_takesPlane_0 rfl ?_
  refine y_pcallsN C (m_X5_isPlane (l := l) (D := D) (cA := cA) (cB := cB) (x := dg) (by first | assumption | omega | exact ⟨by omega, by omega⟩)) lk_X3_69 [] [0] [0] ⟨rfl, rfl, by decide, by decide, by decide⟩ ⟨rfl, by decide⟩ dX3_takesPlane_1 rfl rfl ⟨by exact Nat.le_of_ble_eq_true rfl, by exact Nat.le_of_ble_eq_true rfl, rfl, rfl, by exact Nat.le_of_ble_eq_true rfl, by exact Nat.le_of_ble_eq_true rfl, by exact Nat.le_of_ble_eq_true rfl⟩ (fun r_2 h_1 => ?_)
  refine y_if_ne C 9 dX3_takesPlane_4 (by decide) ⟨by omega, by omega⟩ (fun c_3 => ?_) (fun c_3 => ?_)
  · refine y_aload_n C 0 dX3_takesPlane_9 rfl ?_
    refine y_iload_n C 1 dX3_takesPlane_10 rfl ?_
    refine y_put C fp_X3_72 0 [cO pr 3 [.int (zI ta), .int (zI bo), .int (zI le), .int (zI ri), .int (zI dg), .int (zI sg)]] dX3_takesPlane_11 rfl rfl rfl (by exact Nat.le_of_ble_eq_true rfl) rfl ?_
    refine y_aload_n C 0 dX3_takesPlane_14 rfl ?_
    refine y_bipush C dX3_takesPlane_15 (by decide +kernel) ?_
    refine y_mcalli C (m_X3_goesOn (l := l) (D := D) (cA := cA) (cB := cB) (pr := pr) (ta := ta) (bo := bo) (le := le) (ri := ri) (pn := dg) (sg := sg) (nx := 9) ) lk_X3_19 [0] [] ⟨rfl, rfl, by decide, by decide, by decide⟩ (jb := 0) rfl rfl dX3_takesPlane_17 rfl rfl ⟨by exact Nat.le_of_ble_eq_true rfl, by exact Nat.le_of_ble_eq_true rfl, rfl, rfl, by exact Nat.le_of_ble_eq_true rfl, by exact Nat.le_of_ble_eq_true rfl, by exact Nat.le_of_ble_eq_true rfl⟩ (fun r_5 w_6 h_4 => ?_)
    obtain ⟨rfl, h_4⟩ := h_4
    refine ⟨[0], [cO pr 3 [.int (zI ta), .int (zI bo), .int (zI le), .int (zI ri), .int (zI dg), .int (zI 9)]], ⟨rfl, by decide⟩, ?_⟩
    have hgo := h_4
    refine hret _ _ _ _ dX3_takesPlane_20 ⟨ta, bo, le, ri, dg, 9, rfl, ?_⟩
    show ((r_5 = 1 ∧ (0 ≤ dg ∧ dg < 5) ∧ ta = ta ∧ bo = bo ∧ le = le ∧ ri = ri ∧ dg = dg ∧ 9 = 9) ∨ (r_5 = 0 ∧ ¬ (0 ≤ dg ∧ dg < 5) ∧ ta = ta ∧ bo = bo ∧ le = le ∧ ri = ri ∧ dg = pn ∧ 9 = sg))
    omega
  · refine y_iconst C dX3_takesPlane_7 ?_
    refine hret _ _ _ _ dX3_takesPlane_8 ⟨ta, bo, le, ri, pn, sg, rfl, ?_⟩
    show ((0 = 1 ∧ (0 ≤ dg ∧ dg < 5) ∧ ta = ta ∧ bo = bo ∧ le = le ∧ ri = ri ∧ pn = dg ∧ sg = 9) ∨ (0 = 0 ∧ ¬ (0 ≤ dg ∧ dg < 5) ∧ ta = ta ∧ bo = bo ∧ le = le ∧ ri = ri ∧ pn = pn ∧ sg = sg))
    omega

set_option maxHeartbeats 4000000 in
set_option maxRecDepth 100000 in
theorem m_X3_greatestFrom {l : Launch} {D : va_G} {cA cB : ClassId} {dg : Int} (hdg : 0 ≤ dg ∧ dg ≤ 9) : MI l yX3_greatestFrom cX3_greatestFrom 1 .int { frames := 1, cells := 0, slots := 0, locals := 20 } D (zT cA cB) [.int (zI dg)] [] (fun r w => w = [] ∧ r = grt dg ∧ 0 ≤ r ∧ r ≤ 31) := by
  refine MI.of RX3 ⟨rfl, by decide +kernel⟩ (Or.inl rfl) (Nat.le_of_ble_eq_true rfl) (fun h => by cases h) ?_
  intro K C hret
  change K 0 0 _ [(0, .int (zI dg))] 0 []
  refine y_iload_n C 0 dX3_greatestFrom_0 rfl ?_
  refine y_if_eq C 14 dX3_greatestFrom_1 (by decide) ⟨by omega, by omega⟩ (fun c_1 => ?_) (fun c_1 => ?_)
  · refine y_iload_n C 0 dX3_greatestFrom_14 rfl ?_
    refine hret _ _ _ _ dX3_greatestFrom_15 ⟨rfl, ?_⟩
    show dg = grt dg ∧ 0 ≤ dg ∧ dg ≤ 31
    unfold grt; (repeat' split) <;> omega
  · refine y_bipush C dX3_greatestFrom_4 (by decide +kernel) ?_
    refine y_iload_n C 0 dX3_greatestFrom_6 rfl ?_
    refine y_imul C dX3_greatestFrom_7 ?_
    refine y_pcallsN C (m_X5_isColumn (l := l) (D := D) (cA := cA) (cB := cB) (x := 10 * dg) (by exact ⟨by omega, by omega⟩)) lk_X3_50 [] [] [] ⟨rfl, rfl, by decide, by decide, by decide⟩ ⟨rfl, by decide⟩ dX3_greatestFrom_8 rfl rfl ⟨by exact Nat.le_of_ble_eq_true rfl, by exact Nat.le_of_ble_eq_true rfl, rfl, rfl, by exact Nat.le_of_ble_eq_true rfl, by exact Nat.le_of_ble_eq_true rfl, by exact Nat.le_of_ble_eq_true rfl⟩ (fun r_3 h_2 => ?_)
    refine y_if_ne C 16 dX3_greatestFrom_11 (by decide) ⟨by omega, by omega⟩ (fun c_4 => ?_) (fun c_4 => ?_)
    · refine y_bipush C dX3_greatestFrom_16 (by decide +kernel) ?_
      refine y_iload_n C 0 dX3_greatestFrom_18 rfl ?_
      refine y_imul C dX3_greatestFrom_19 ?_
      refine y_bipush C dX3_greatestFrom_20 (by decide +kernel) ?_
      refine y_iadd C dX3_greatestFrom_22 ?_
      refine y_bipush C dX3_greatestFrom_23 (by decide +kernel) ?_
      refine y_min C lk_X3_63 dX3_greatestFrom_25 ⟨⟨by omega, by omega⟩, ⟨by omega, by omega⟩⟩ ⟨by exact Nat.le_of_ble_eq_true rfl, by exact Nat.le_of_ble_eq_true rfl, by exact Nat.le_of_ble_eq_true rfl, by exact Nat.le_of_ble_eq_true rfl⟩ (fun z_6 m_5 => ?_)
      refine hret _ _ _ _ dX3_greatestFrom_28 ⟨rfl, ?_⟩
      show z_6 = grt dg ∧ 0 ≤ z_6 ∧ z_6 ≤ 31
      unfold grt; (repeat' split) <;> omega
    · refine y_iload_n C 0 dX3_greatestFrom_14 rfl ?_
      refine hret _ _ _ _ dX3_greatestFrom_15 ⟨rfl, ?_⟩
      show dg = grt dg ∧ 0 ≤ dg ∧ dg ≤ 31
      unfold grt; (repeat' split) <;> omega

set_option maxHeartbeats 4000000 in
set_option maxRecDepth 100000 in
theorem m_X3_takesFirstOfRight {l : Launch} {D : va_G} {cA cB : ClassId} {pr : Nat} {ta bo le ri pn sg : Int} {dg : Int} (hdg : 0 ≤ dg ∧ dg ≤ 9) (hzok : Zok ta bo le ri pn sg) : MI l yX3_takesFirstOfRight cX3_takesFirstOfRight 2 .boolean { frames := 2, cells := 0, slots := 0, locals := 40 } D (zT cA cB) [.ref pr, .int (zI dg)] [cO pr 3 [.int (zI ta), .int (zI bo), .int (zI le), .int (zI ri), .int (zI pn), .int (zI sg)]] (fun r w => ∃ (ta2 : Int), ∃ (bo2 : Int), ∃ (le2 : Int), ∃ (ri2 : Int), ∃ (pn2 : Int), ∃ (sg2 : Int), w = [cO pr 3 [.int (zI ta2), .int (zI bo2), .int (zI le2), .int (zI ri2), .int (zI pn2), .int (zI sg2)]] ∧ ((r = 1 ∧ (le ≤ grt dg) ∧ ta2 = ta ∧ bo2 = bo ∧ le2 = le ∧ ri2 = dg ∧ pn2 = pn ∧ sg2 = 7) ∨ (r = 0 ∧ ¬ (le ≤ grt dg) ∧ ta2 = ta ∧ bo2 = bo ∧ le2 = le ∧ ri2 = ri ∧ pn2 = pn ∧ sg2 = sg))) := by
  refine MI.of RX3 ⟨rfl, by decide +kernel⟩ (Or.inr rfl) (Nat.le_of_ble_eq_true rfl) (fun _ r w h => by obtain ⟨_, _, _, _, _, _, -, h⟩ := h; omega) ?_
  intro K C hret
  change K 0 0 _ [(0, .ref pr), (1, .int (zI dg))] 0 []
  refine y_iload_n C 1 dX3_takesFirstOfRight_0 rfl ?_
  refine y_pcalls C (m_X3_greatestFrom (l := l) (D := D) (cA := cA) (cB := cB) (dg := dg) (by first | assumption | omega | exact ⟨by omega, by omega⟩)) lk_X3_59 [] [0] [0] ⟨rfl, rfl, by decide, by decide, by decide⟩ ⟨rfl, by decide⟩ dX3_takesFirstOfRight_1 rfl rfl ⟨by exact Nat.le_of_ble_eq_true rfl, by exact Nat.le_of_ble_eq_true rfl, rfl, rfl, by exact Nat.le_of_ble_eq_true rfl, by exact Nat.le_of_ble_eq_true rfl, by exact Nat.le_of_ble_eq_true rfl⟩ (fun r_2 h_1 => ?_)
  have hgr := h_1
  refine y_aload_n C 0 dX3_takesFirstOfRight_4 rfl ?_
  refine y_get C fg_X3_53 0 dX3_takesFirstOfRight_5 rfl rfl ?_
  refine y_icmp_ge C 13 dX3_takesFirstOfRight_8 (by decide) ⟨⟨by omega, by omega⟩, ⟨by omega, by omega⟩⟩ (fun c_3 => ?_) (fun c_3 => ?_)
  · refine y_aload_n C 0 dX3_takesFirstOfRight_13 rfl ?_
    refine y_iload_n C 1 dX3_takesFirstOfRight_14 rfl ?_
    refine y_put C fp_X3_56 0 [cO pr 3 [.int (zI ta), .int (zI bo), .int (zI le), .int (zI dg), .int (zI pn), .int (zI sg)]] dX3_takesFirstOfRight_15 rfl rfl rfl (by exact Nat.le_of_ble_eq_true rfl) rfl ?_
    refine y_aload_n C 0 dX3_takesFirstOfRight_18 rfl ?_
    refine y_bipush C dX3_takesFirstOfRight_19 (by decide +kernel) ?_
    refine y_mcalli C (m_X3_goesOn (l := l) (D := D) (cA := cA) (cB := cB) (pr := pr) (ta := ta) (bo := bo) (le := le) (ri := dg) (pn := pn) (sg := sg) (nx := 7) ) lk_X3_19 [0] [] ⟨rfl, rfl, by decide, by decide, by decide⟩ (jb := 0) rfl rfl dX3_takesFirstOfRight_21 rfl rfl ⟨by exact Nat.le_of_ble_eq_true rfl, by exact Nat.le_of_ble_eq_true rfl, rfl, rfl, by exact Nat.le_of_ble_eq_true rfl, by exact Nat.le_of_ble_eq_true rfl, by exact Nat.le_of_ble_eq_true rfl⟩ (fun r_5 w_6 h_4 => ?_)
    obtain ⟨rfl, h_4⟩ := h_4
    refine ⟨[0], [cO pr 3 [.int (zI ta), .int (zI bo), .int (zI le), .int (zI dg), .int (zI pn), .int (zI 7)]], ⟨rfl, by decide⟩, ?_⟩
    have hgo := h_4
    refine hret _ _ _ _ dX3_takesFirstOfRight_24 ⟨ta, bo, le, dg, pn, 7, rfl, ?_⟩
    show ((r_5 = 1 ∧ (le ≤ grt dg) ∧ ta = ta ∧ bo = bo ∧ le = le ∧ dg = dg ∧ pn = pn ∧ 7 = 7) ∨ (r_5 = 0 ∧ ¬ (le ≤ grt dg) ∧ ta = ta ∧ bo = bo ∧ le = le ∧ dg = ri ∧ pn = pn ∧ 7 = sg))
    omega
  · refine y_iconst C dX3_takesFirstOfRight_11 ?_
    refine hret _ _ _ _ dX3_takesFirstOfRight_12 ⟨ta, bo, le, ri, pn, sg, rfl, ?_⟩
    show ((0 = 1 ∧ (le ≤ grt dg) ∧ ta = ta ∧ bo = bo ∧ le = le ∧ ri = dg ∧ pn = pn ∧ sg = 7) ∨ (0 = 0 ∧ ¬ (le ≤ grt dg) ∧ ta = ta ∧ bo = bo ∧ le = le ∧ ri = ri ∧ pn = pn ∧ sg = sg))
    omega

set_option maxHeartbeats 4000000 in
set_option maxRecDepth 100000 in
theorem m_X3_takesBehindLeft {l : Launch} {D : va_G} {cA cB : ClassId} {pr : Nat} {ta bo le ri pn sg : Int} {ch dg : Int} (hcc : 0 ≤ ch ∧ ch ≤ 126) (hdg : (dg = -4 ∧ ¬ (48 ≤ ch ∧ ch ≤ 57)) ∨ (dg = ch - 48 ∧ 48 ≤ ch ∧ ch ≤ 57)) (hzok : Zok ta bo le ri pn sg) (hsg : sg = 5) : MI l yX3_takesBehindLeft cX3_takesBehindLeft 3 .boolean { frames := 2, cells := 0, slots := 0, locals := 42 } D (zT cA cB) [.ref pr, .int (zI ch), .int (zI dg)] [cO pr 3 [.int (zI ta), .int (zI bo), .int (zI le), .int (zI ri), .int (zI pn), .int (zI sg)]] (fun r w => ∃ (ta2 : Int), ∃ (bo2 : Int), ∃ (le2 : Int), ∃ (ri2 : Int), ∃ (pn2 : Int), ∃ (sg2 : Int), w = [cO pr 3 [.int (zI ta2), .int (zI bo2), .int (zI le2), .int (zI ri2), .int (zI pn2), .int (zI sg2)]] ∧ ((r = 1 ∧ stp (ta, bo, le, ri, pn, 5) ch = some (ta2, bo2, le2, ri2, pn2, sg2)) ∨ (r = 0 ∧ stp (ta, bo, le, ri, pn, 5) ch = none ∧ ta2 = ta ∧ bo2 = bo ∧ le2 = le ∧ ri2 = ri ∧ pn2 = pn ∧ sg2 = sg))) := by
  refine MI.of RX3 ⟨rfl, by decide +kernel⟩ (Or.inr rfl) (Nat.le_of_ble_eq_true rfl) (fun _ r w h => by obtain ⟨_, _, _, _, _, _, -, h⟩ := h; omega) ?_
  intro K C hret
  change K 0 0 _ [(0, .ref pr), (1, .int (zI ch)), (2, .int (zI dg))] 0 []
  refine y_iload_n C 1 dX3_takesBehindLeft_0 rfl ?_
  refine y_bipush C dX3_takesBehindLeft_1 (by decide +kernel) ?_
  refine y_icmp_ne C 13 dX3_takesBehindLeft_3 (by decide) ⟨⟨by omega, by omega⟩, ⟨by omega, by omega⟩⟩ (fun c_1 => ?_) (fun c_1 => ?_)
  · refine y_iload_n C 1 dX3_takesBehindLeft_13 rfl ?_
    refine y_bipush C dX3_takesBehindLeft_14 (by decide +kernel) ?_
    refine y_icmp_ne C 26 dX3_takesBehindLeft_16 (by decide) ⟨⟨by omega, by omega⟩, ⟨by omega, by omega⟩⟩ (fun c_2 => ?_) (fun c_2 => ?_)
    · refine y_iload_n C 2 dX3_takesBehindLeft_26 rfl ?_
      refine y_bipush C dX3_takesBehindLeft_27 (by decide +kernel) ?_
      refine y_icmp_eq C 59 dX3_takesBehindLeft_29 (by decide) ⟨⟨by omega, by omega⟩, ⟨by omega, by omega⟩⟩ (fun c_3 => ?_) (fun c_3 => ?_)
      · refine y_iconst C dX3_takesBehindLeft_59 ?_
        refine hret _ _ _ _ dX3_takesBehindLeft_60 ⟨ta, bo, le, ri, pn, sg, rfl, ?_⟩
        show ((0 = 1 ∧ stp (ta, bo, le, ri, pn, 5) ch = some (ta, bo, le, ri, pn, sg)) ∨ (0 = 0 ∧ stp (ta, bo, le, ri, pn, 5) ch = none ∧ ta = ta ∧ bo = bo ∧ le = le ∧ ri = ri ∧ pn = pn ∧ sg = sg))
        rw [stp5]
        first | (refine Or.inl ⟨by omega, ?_⟩; (repeat' split) <;> first | rfl | (exfalso; omega) | exact some6 (by omega)) | (refine Or.inr ⟨by omega, ?_, by omega⟩; (repeat' split) <;> first | rfl | (exfalso; omega))
      · refine y_aload_n C 0 dX3_takesBehindLeft_32 rfl ?_
        refine y_get C fg_X3_53 0 dX3_takesBehindLeft_33 rfl rfl ?_
        refine y_if_le C 59 dX3_takesBehindLeft_36 (by decide) ⟨by omega, by omega⟩ (fun c_4 => ?_) (fun c_4 => ?_)
        · refine y_iconst C dX3_takesBehindLeft_59 ?_
          refine hret _ _ _ _ dX3_takesBehindLeft_60 ⟨ta, bo, le, ri, pn, sg, rfl, ?_⟩
          show ((0 = 1 ∧ stp (ta, bo, le, ri, pn, 5) ch = some (ta, bo, le, ri, pn, sg)) ∨ (0 = 0 ∧ stp (ta, bo, le, ri, pn, 5) ch = none ∧ ta = ta ∧ bo = bo ∧ le = le ∧ ri = ri ∧ pn = pn ∧ sg = sg))
          rw [stp5]
          first | (refine Or.inl ⟨by omega, ?_⟩; (repeat' split) <;> first | rfl | (exfalso; omega) | exact some6 (by omega)) | (refine Or.inr ⟨by omega, ?_, by omega⟩; (repeat' split) <;> first | rfl | (exfalso; omega))
        · refine y_aload_n C 0 dX3_takesBehindLeft_39 rfl ?_
          refine y_bipush C dX3_takesBehindLeft_40 (by decide +kernel) ?_
          refine y_aload_n C 0 dX3_takesBehindLeft_42 rfl ?_
          refine y_get C fg_X3_53 0 dX3_takesBehindLeft_43 rfl rfl ?_
          refine y_imul C dX3_takesBehindLeft_46 ?_
          refine y_iload_n C 2 dX3_takesBehindLeft_47 rfl ?_
          refine y_iadd C dX3_takesBehindLeft_48 ?_
          refine y_mcalli C (m_X3_takesLeft (l := l) (D := D) (cA := cA) (cB := cB) (pr := pr) (ta := ta) (bo := bo) (le := le) (ri := ri) (pn := pn) (sg := sg) (dg := (10 * le) + dg) (by exact ⟨by omega, by omega⟩)) lk_X3_25 [0] [] ⟨rfl, rfl, by decide, by decide, by decide⟩ (jb := 0) rfl rfl dX3_takesBehindLeft_49 rfl rfl ⟨by exact Nat.le_of_ble_eq_true rfl, by exact Nat.le_of_ble_eq_true rfl, rfl, rfl, by exact Nat.le_of_ble_eq_true rfl, by exact Nat.le_of_ble_eq_true rfl, by exact Nat.le_of_ble_eq_true rfl⟩ (fun r_6 w_13 h_5 => ?_)
          obtain ⟨ta2_7, bo2_8, le2_9, ri2_10, pn2_11, sg2_12, rfl, h_5⟩ := h_5
          refine ⟨[0], [cO pr 3 [.int (zI ta2_7), .int (zI bo2_8), .int (zI le2_9), .int (zI ri2_10), .int (zI pn2_11), .int (zI sg2_12)]], ⟨rfl, by decide⟩, ?_⟩
          have hgo := h_5
          refine y_if_eq C 59 dX3_takesBehindLeft_52 (by decide) ⟨by omega, by omega⟩ (fun c_14 => ?_) (fun c_14 => ?_)
          · refine y_iconst C dX3_takesBehindLeft_59 ?_
            refine hret _ _ _ _ dX3_takesBehindLeft_60 ⟨ta2_7, bo2_8, le2_9, ri2_10, pn2_11, sg2_12, rfl, ?_⟩
            show ((0 = 1 ∧ stp (ta, bo, le, ri, pn, 5) ch = some (ta2_7, bo2_8, le2_9, ri2_10, pn2_11, sg2_12)) ∨ (0 = 0 ∧ stp (ta, bo, le, ri, pn, 5) ch = none ∧ ta2_7 = ta ∧ bo2_8 = bo ∧ le2_9 = le ∧ ri2_10 = ri ∧ pn2_11 = pn ∧ sg2_12 = sg))
            rw [stp5]
            first | (refine Or.inl ⟨by omega, ?_⟩; (repeat' split) <;> first | rfl | (exfalso; omega) | exact some6 (by omega)) | (refine Or.inr ⟨by omega, ?_, by omega⟩; (repeat' split) <;> first | rfl | (exfalso; omega))
          · refine y_iconst C dX3_takesBehindLeft_55 ?_
            refine y_goto C 60 dX3_takesBehindLeft_56 (by decide) ?_
            refine hret _ _ _ _ dX3_takesBehindLeft_60 ⟨ta2_7, bo2_8, le2_9, ri2_10, pn2_11, sg2_12, rfl, ?_⟩
            show ((1 = 1 ∧ stp (ta, bo, le, ri, pn, 5) ch = some (ta2_7, bo2_8, le2_9, ri2_10, pn2_11, sg2_12)) ∨ (1 = 0 ∧ stp (ta, bo, le, ri, pn, 5) ch = none ∧ ta2_7 = ta ∧ bo2_8 = bo ∧ le2_9 = le ∧ ri2_10 = ri ∧ pn2_11 = pn ∧ sg2_12 = sg))
            rw [stp5]
            first | (refine Or.inl ⟨by omega, ?_⟩; (repeat' split) <;> first | rfl | (exfalso; omega) | exact some6 (by omega)) | (refine Or.inr ⟨by omega, ?_, by omega⟩; (repeat' split) <;> first | rfl | (exfalso; omega))
    · refine y_aload_n C 0 dX3_takesBehindLeft_19 rfl ?_
      refine y_bipush C dX3_takesBehindLeft_20 (by decide +kernel) ?_
      refine y_mcalli C (m_X3_goesOn (l := l) (D := D) (cA := cA) (cB := cB) (pr := pr) (ta := ta) (bo := bo) (le := le) (ri := ri) (pn := pn) (sg := sg) (nx := 8) ) lk_X3_19 [0] [] ⟨rfl, rfl, by decide, by decide, by decide⟩ (jb := 0) rfl rfl dX3_takesBehindLeft_22 rfl rfl ⟨by exact Nat.le_of_ble_eq_true rfl, by exact Nat.le_of_ble_eq_true rfl, rfl, rfl, by exact Nat.le_of_ble_eq_true rfl, by exact Nat.le_of_ble_eq_true rfl, by exact Nat.le_of_ble_eq_true rfl⟩ (fun r_16 w_17 h_15 => ?_)
      obtain ⟨rfl, h_15⟩ := h_15
      refine ⟨[0], [cO pr 3 [.int (zI ta), .int (zI bo), .int (zI le), .int (zI ri), .int (zI pn), .int (zI 8)]], ⟨rfl, by decide⟩, ?_⟩
      have hgo := h_15
      refine hret _ _ _ _ dX3_takesBehindLeft_25 ⟨ta, bo, le, ri, pn, 8, rfl, ?_⟩
      show ((r_16 = 1 ∧ stp (ta, bo, le, ri, pn, 5) ch = some (ta, bo, le, ri, pn, 8)) ∨ (r_16 = 0 ∧ stp (ta, bo, le, ri, pn, 5) ch = none ∧ ta = ta ∧ bo = bo ∧ le = le ∧ ri = ri ∧ pn = pn ∧ 8 = sg))
      rw [stp5]
      first | (refine Or.inl ⟨by omega, ?_⟩; (repeat' split) <;> first | rfl | (exfalso; omega) | exact some6 (by omega)) | (refine Or.inr ⟨by omega, ?_, by omega⟩; (repeat' split) <;> first | rfl | (exfalso; omega))
  · refine y_aload_n C 0 dX3_takesBehindLeft_6 rfl ?_
    refine y_bipush C dX3_takesBehindLeft_7 (by decide +kernel) ?_
    refine y_mcalli C (m_X3_goesOn (l := l) (D := D) (cA := cA) (cB := cB) (pr := pr) (ta := ta) (bo := bo) (le := le) (ri := ri) (pn := pn) (sg := sg) (nx := 6) ) lk_X3_19 [0] [] ⟨rfl, rfl, by decide, by decide, by decide⟩ (jb := 0) rfl rfl dX3_takesBehindLeft_9 rfl rfl ⟨by exact Nat.le_of_ble_eq_true rfl, by exact Nat.le_of_ble_eq_true rfl, rfl, rfl, by exact Nat.le_of_ble_eq_true rfl, by exact Nat.le_of_ble_eq_true rfl, by exact Nat.le_of_ble_eq_true rfl⟩ (fun r_19 w_20 h_18 => ?_)
    obtain ⟨rfl, h_18⟩ := h_18
    refine ⟨[0], [cO pr 3 [.int (zI ta), .int (zI bo), .int (zI le), .int (zI ri), .int (zI pn), .int (zI 6)]], ⟨rfl, by decide⟩, ?_⟩
    have hgo := h_18
    refine hret _ _ _ _ dX3_takesBehindLeft_12 ⟨ta, bo, le, ri, pn, 6, rfl, ?_⟩
    show ((r_19 = 1 ∧ stp (ta, bo, le, ri, pn, 5) ch = some (ta, bo, le, ri, pn, 6)) ∨ (r_19 = 0 ∧ stp (ta, bo, le, ri, pn, 5) ch = none ∧ ta = ta ∧ bo = bo ∧ le = le ∧ ri = ri ∧ pn = pn ∧ 6 = sg))
    rw [stp5]
    first | (refine Or.inl ⟨by omega, ?_⟩; (repeat' split) <;> first | rfl | (exfalso; omega) | exact some6 (by omega)) | (refine Or.inr ⟨by omega, ?_, by omega⟩; (repeat' split) <;> first | rfl | (exfalso; omega))

set_option maxHeartbeats 4000000 in
set_option maxRecDepth 100000 in
theorem m_X3_takesBehindRight {l : Launch} {D : va_G} {cA cB : ClassId} {pr : Nat} {ta bo le ri pn sg : Int} {ch dg : Int} (hcc : 0 ≤ ch ∧ ch ≤ 126) (hdg : (dg = -4 ∧ ¬ (48 ≤ ch ∧ ch ≤ 57)) ∨ (dg = ch - 48 ∧ 48 ≤ ch ∧ ch ≤ 57)) (hzok : Zok ta bo le ri pn sg) (hsg : sg = 7) : MI l yX3_takesBehindRight cX3_takesBehindRight 4 .boolean { frames := 1, cells := 0, slots := 0, locals := 21 } D (zT cA cB) [.ref pr, .int (zI ch), .int (zI dg)] [cO pr 3 [.int (zI ta), .int (zI bo), .int (zI le), .int (zI ri), .int (zI pn), .int (zI sg)]] (fun r w => ∃ (ta2 : Int), ∃ (bo2 : Int), ∃ (le2 : Int), ∃ (ri2 : Int), ∃ (pn2 : Int), ∃ (sg2 : Int), w = [cO pr 3 [.int (zI ta2), .int (zI bo2), .int (zI le2), .int (zI ri2), .int (zI pn2), .int (zI sg2)]] ∧ ((r = 1 ∧ stp (ta, bo, le, ri, pn, 7) ch = some (ta2, bo2, le2, ri2, pn2, sg2)) ∨ (r = 0 ∧ stp (ta, bo, le, ri, pn, 7) ch = none ∧ ta2 = ta ∧ bo2 = bo ∧ le2 = le ∧ ri2 = ri ∧ pn2 = pn ∧ sg2 = sg))) := by
  refine MI.of RX3 ⟨rfl, by decide +kernel⟩ (Or.inr rfl) (Nat.le_of_ble_eq_true rfl) (fun _ r w h => by obtain ⟨_, _, _, _, _, _, -, h⟩ := h; omega) ?_
  intro K C hret
  change K 0 0 _ [(0, .ref pr), (1, .int (zI ch)), (2, .int (zI dg))] 0 []
  refine y_iload_n C 1 dX3_takesBehindRight_0 rfl ?_
  refine y_bipush C dX3_takesBehindRight_1 (by decide +kernel) ?_
  refine y_icmp_ne C 32 dX3_takesBehindRight_3 (by decide) ⟨⟨by omega, by omega⟩, ⟨by omega, by omega⟩⟩ (fun c_1 => ?_) (fun c_1 => ?_)
  · refine y_bipush C dX3_takesBehindRight_32 (by decide +kernel) ?_
    refine y_aload_n C 0 dX3_takesBehindRight_34 rfl ?_
    refine y_get C fg_X3_56 0 dX3_takesBehindRight_35 rfl rfl ?_
    refine y_imul C dX3_takesBehindRight_38 ?_
    refine y_iload_n C 2 dX3_takesBehindRight_39 rfl ?_
    refine y_iadd C dX3_takesBehindRight_40 ?_
    refine y_istore_n C [(3, .int (zI ((10 * ri) + dg))), (0, .ref pr), (1, .int (zI ch)), (2, .int (zI dg))] dX3_takesBehindRight_41 (by decide) rfl ?_
    refine y_iload_n C 3 dX3_takesBehindRight_42 rfl ?_
    refine y_bipush C dX3_takesBehindRight_43 (by decide +kernel) ?_
    refine y_icmp_eq C 70 dX3_takesBehindRight_45 (by decide) ⟨⟨by omega, by omega⟩, ⟨by omega, by omega⟩⟩ (fun c_2 => ?_) (fun c_2 => ?_)
    · refine y_iconst C dX3_takesBehindRight_70 ?_
      refine hret _ _ _ _ dX3_takesBehindRight_71 ⟨ta, bo, le, ri, pn, sg, rfl, ?_⟩
      show ((0 = 1 ∧ stp (ta, bo, le, ri, pn, 7) ch = some (ta, bo, le, ri, pn, sg)) ∨ (0 = 0 ∧ stp (ta, bo, le, ri, pn, 7) ch = none ∧ ta = ta ∧ bo = bo ∧ le = le ∧ ri = ri ∧ pn = pn ∧ sg = sg))
      rw [stp7]
      first | (refine Or.inl ⟨by omega, ?_⟩; (repeat' split) <;> first | rfl | (exfalso; omega) | exact some6 (by omega)) | (refine Or.inr ⟨by omega, ?_, by omega⟩; (repeat' split) <;> first | rfl | (exfalso; omega))
    · refine y_aload_n C 1 dX3_takesBehindRight_48 rfl ?_
      refine y_get C fg_X3_56 0 dX3_takesBehindRight_49 rfl rfl ?_
      refine y_if_eq C 70 dX3_takesBehindRight_52 (by decide) ⟨by omega, by omega⟩ (fun c_3 => ?_) (fun c_3 => ?_)
      · refine y_iconst C dX3_takesBehindRight_70 ?_
        refine hret _ _ _ _ dX3_takesBehindRight_71 ⟨ta, bo, le, ri, pn, sg, rfl, ?_⟩
        show ((0 = 1 ∧ stp (ta, bo, le, ri, pn, 7) ch = some (ta, bo, le, ri, pn, sg)) ∨ (0 = 0 ∧ stp (ta, bo, le, ri, pn, 7) ch = none ∧ ta = ta ∧ bo = bo ∧ le = le ∧ ri = ri ∧ pn = pn ∧ sg = sg))
        rw [stp7]
        first | (refine Or.inl ⟨by omega, ?_⟩; (repeat' split) <;> first | rfl | (exfalso; omega) | exact some6 (by omega)) | (refine Or.inr ⟨by omega, ?_, by omega⟩; (repeat' split) <;> first | rfl | (exfalso; omega))
      · refine y_iload_n C 0 dX3_takesBehindRight_55 rfl ?_
        refine y_pcallsN C (m_X5_isColumn (l := l) (D := D) (cA := cA) (cB := cB) (x := (10 * ri) + dg) (by exact ⟨by omega, by omega⟩)) lk_X3_50 [] [0] [0] ⟨rfl, rfl, by decide, by decide, by decide⟩ ⟨rfl, by decide⟩ dX3_takesBehindRight_56 rfl rfl ⟨by exact Nat.le_of_ble_eq_true rfl, by exact Nat.le_of_ble_eq_true rfl, rfl, rfl, by exact Nat.le_of_ble_eq_true rfl, by exact Nat.le_of_ble_eq_true rfl, by exact Nat.le_of_ble_eq_true rfl⟩ (fun r_5 h_4 => ?_)
        refine y_if_eq C 70 dX3_takesBehindRight_59 (by decide) ⟨by omega, by omega⟩ (fun c_6 => ?_) (fun c_6 => ?_)
        · refine y_iconst C dX3_takesBehindRight_70 ?_
          refine hret _ _ _ _ dX3_takesBehindRight_71 ⟨ta, bo, le, ri, pn, sg, rfl, ?_⟩
          show ((0 = 1 ∧ stp (ta, bo, le, ri, pn, 7) ch = some (ta, bo, le, ri, pn, sg)) ∨ (0 = 0 ∧ stp (ta, bo, le, ri, pn, 7) ch = none ∧ ta = ta ∧ bo = bo ∧ le = le ∧ ri = ri ∧ pn = pn ∧ sg = sg))
          rw [stp7]
          first | (refine Or.inl ⟨by omega, ?_⟩; (repeat' split) <;> first | rfl | (exfalso; omega) | exact some6 (by omega)) | (refine Or.inr ⟨by omega, ?_, by omega⟩; (repeat' split) <;> first | rfl | (exfalso; omega))
        · refine y_iload_n C 0 dX3_takesBehindRight_62 rfl ?_
          refine y_aload_n C 1 dX3_takesBehindRight_63 rfl ?_
          refine y_get C fg_X3_53 0 dX3_takesBehindRight_64 rfl rfl ?_
          refine y_icmp_ge C 72 dX3_takesBehindRight_67 (by decide) ⟨⟨by omega, by omega⟩, ⟨by omega, by omega⟩⟩ (fun c_7 => ?_) (fun c_7 => ?_)
          · refine y_aload_n C 1 dX3_takesBehindRight_72 rfl ?_
            refine y_iload_n C 0 dX3_takesBehindRight_73 rfl ?_
            refine y_put C fp_X3_56 0 [cO pr 3 [.int (zI ta), .int (zI bo), .int (zI le), .int (zI ((10 * ri) + dg)), .int (zI pn), .int (zI sg)]] dX3_takesBehindRight_74 rfl rfl rfl (by exact Nat.le_of_ble_eq_true rfl) rfl ?_
            refine y_aload_n C 1 dX3_takesBehindRight_77 rfl ?_
            refine y_bipush C dX3_takesBehindRight_78 (by decide +kernel) ?_
            refine y_mcalli C (m_X3_goesOn (l := l) (D := D) (cA := cA) (cB := cB) (pr := pr) (ta := ta) (bo := bo) (le := le) (ri := (10 * ri) + dg) (pn := pn) (sg := sg) (nx := 7) ) lk_X3_19 [0] [] ⟨rfl, rfl, by decide, by decide, by decide⟩ (jb := 0) rfl rfl dX3_takesBehindRight_80 rfl rfl ⟨by exact Nat.le_of_ble_eq_true rfl, by exact Nat.le_of_ble_eq_true rfl, rfl, rfl, by exact Nat.le_of_ble_eq_true rfl, by exact Nat.le_of_ble_eq_true rfl, by exact Nat.le_of_ble_eq_true rfl⟩ (fun r_9 w_10 h_8 => ?_)
            obtain ⟨rfl, h_8⟩ := h_8
            refine ⟨[0], [cO pr 3 [.int (zI ta), .int (zI bo), .int (zI le), .int (zI ((10 * ri) + dg)), .int (zI pn), .int (zI 7)]], ⟨rfl, by decide⟩, ?_⟩
            have hgo := h_8
            refine hret _ _ _ _ dX3_takesBehindRight_83 ⟨ta, bo, le, ((10 * ri) + dg), pn, 7, rfl, ?_⟩
            show ((r_9 = 1 ∧ stp (ta, bo, le, ri, pn, 7) ch = some (ta, bo, le, ((10 * ri) + dg), pn, 7)) ∨ (r_9 = 0 ∧ stp (ta, bo, le, ri, pn, 7) ch = none ∧ ta = ta ∧ bo = bo ∧ le = le ∧ ((10 * ri) + dg) = ri ∧ pn = pn ∧ 7 = sg))
            rw [stp7]
            first | (refine Or.inl ⟨by omega, ?_⟩; (repeat' split) <;> first | rfl | (exfalso; omega) | exact some6 (by omega)) | (refine Or.inr ⟨by omega, ?_, by omega⟩; (repeat' split) <;> first | rfl | (exfalso; omega))
          · refine y_iconst C dX3_takesBehindRight_70 ?_
            refine hret _ _ _ _ dX3_takesBehindRight_71 ⟨ta, bo, le, ri, pn, sg, rfl, ?_⟩
            show ((0 = 1 ∧ stp (ta, bo, le, ri, pn, 7) ch = some (ta, bo, le, ri, pn, sg)) ∨ (0 = 0 ∧ stp (ta, bo, le, ri, pn, 7) ch = none ∧ ta = ta ∧ bo = bo ∧ le = le ∧ ri = ri ∧ pn = pn ∧ sg = sg))
            rw [stp7]
            first | (refine Or.inl ⟨by omega, ?_⟩; (repeat' split) <;> first | rfl | (exfalso; omega) | exact some6 (by omega)) | (refine Or.inr ⟨by omega, ?_, by omega⟩; (repeat' split) <;> first | rfl | (exfalso; omega))
  · refine y_aload_n C 0 dX3_takesBehindRight_6 rfl ?_
    refine y_get C fg_X3_56 0 dX3_takesBehindRight_7 rfl rfl ?_
    refine y_aload_n C 0 dX3_takesBehindRight_10 rfl ?_
    refine y_get C fg_X3_53 0 dX3_takesBehindRight_11 rfl rfl ?_
    refine y_icmp_lt C 30 dX3_takesBehindRight_14 (by decide) ⟨⟨by omega, by omega⟩, ⟨by omega, by omega⟩⟩ (fun c_11 => ?_) (fun c_11 => ?_)
    · refine y_iconst C dX3_takesBehindRight_30 ?_
      refine hret _ _ _ _ dX3_takesBehindRight_31 ⟨ta, bo, le, ri, pn, sg, rfl, ?_⟩
      show ((0 = 1 ∧ stp (ta, bo, le, ri, pn, 7) ch = some (ta, bo, le, ri, pn, sg)) ∨ (0 = 0 ∧ stp (ta, bo, le, ri, pn, 7) ch = none ∧ ta = ta ∧ bo = bo ∧ le = le ∧ ri = ri ∧ pn = pn ∧ sg = sg))
      rw [stp7]
      first | (refine Or.inl ⟨by omega, ?_⟩; (repeat' split) <;> first | rfl | (exfalso; omega) | exact some6 (by omega)) | (refine Or.inr ⟨by omega, ?_, by omega⟩; (repeat' split) <;> first | rfl | (exfalso; omega))
    · refine y_aload_n C 0 dX3_takesBehindRight_17 rfl ?_
      refine y_bipush C dX3_takesBehindRight_18 (by decide +kernel) ?_
      refine y_mcalli C (m_X3_goesOn (l := l) (D := D) (cA := cA) (cB := cB) (pr := pr) (ta := ta) (bo := bo) (le := le) (ri := ri) (pn := pn) (sg := sg) (nx := 8) ) lk_X3_19 [0] [] ⟨rfl, rfl, by decide, by decide, by decide⟩ (jb := 0) rfl rfl dX3_takesBehindRight_20 rfl rfl ⟨by exact Nat.le_of_ble_eq_true rfl, by exact Nat.le_of_ble_eq_true rfl, rfl, rfl, by exact Nat.le_of_ble_eq_true rfl, by exact Nat.le_of_ble_eq_true rfl, by exact Nat.le_of_ble_eq_true rfl⟩ (fun r_13 w_14 h_12 => ?_)
      obtain ⟨rfl, h_12⟩ := h_12
      refine ⟨[0], [cO pr 3 [.int (zI ta), .int (zI bo), .int (zI le), .int (zI ri), .int (zI pn), .int (zI 8)]], ⟨rfl, by decide⟩, ?_⟩
      have hgo := h_12
      refine y_if_eq C 30 dX3_takesBehindRight_23 (by decide) ⟨by omega, by omega⟩ (fun c_15 => ?_) (fun c_15 => ?_)
      · refine y_iconst C dX3_takesBehindRight_30 ?_
        refine hret _ _ _ _ dX3_takesBehindRight_31 ⟨ta, bo, le, ri, pn, 8, rfl, ?_⟩
        show ((0 = 1 ∧ stp (ta, bo, le, ri, pn, 7) ch = some (ta, bo, le, ri, pn, 8)) ∨ (0 = 0 ∧ stp (ta, bo, le, ri, pn, 7) ch = none ∧ ta = ta ∧ bo = bo ∧ le = le ∧ ri = ri ∧ pn = pn ∧ 8 = sg))
        rw [stp7]
        first | (refine Or.inl ⟨by omega, ?_⟩; (repeat' split) <;> first | rfl | (exfalso; omega) | exact some6 (by omega)) | (refine Or.inr ⟨by omega, ?_, by omega⟩; (repeat' split) <;> first | rfl | (exfalso; omega))
      · refine y_iconst C dX3_takesBehindRight_26 ?_
        refine y_goto C 31 dX3_takesBehindRight_27 (by decide) ?_
        refine hret _ _ _ _ dX3_takesBehindRight_31 ⟨ta, bo, le, ri, pn, 8, rfl, ?_⟩
        show ((1 = 1 ∧ stp (ta, bo, le, ri, pn, 7) ch = some (ta, bo, le, ri, pn, 8)) ∨ (1 = 0 ∧ stp (ta, bo, le, ri, pn, 7) ch = none ∧ ta = ta ∧ bo = bo ∧ le = le ∧ ri = ri ∧ pn = pn ∧ 8 = sg))
        rw [stp7]
        first | (refine Or.inl ⟨by omega, ?_⟩; (repeat' split) <;> first | rfl | (exfalso; omega) | exact some6 (by omega)) | (refine Or.inr ⟨by omega, ?_, by omega⟩; (repeat' split) <;> first | rfl | (exfalso; omega))

set_option maxHeartbeats 4000000 in
set_option maxRecDepth 100000 in
theorem m_X3_takes {l : Launch} {D : va_G} {cA cB : ClassId} {pr : Nat} {ta bo le ri pn sg : Int} {ch : Int} (hcc : 0 ≤ ch ∧ ch ≤ 126) (hzok : Zok ta bo le ri pn sg) : MI l yX3_takes cX3_takes 3 .boolean { frames := 3, cells := 0, slots := 0, locals := 64 } D (zT cA cB) [.ref pr, .int (zI ch)] [cO pr 3 [.int (zI ta), .int (zI bo), .int (zI le), .int (zI ri), .int (zI pn), .int (zI sg)]] (fun r w => ∃ (ta2 : Int), ∃ (bo2 : Int), ∃ (le2 : Int), ∃ (ri2 : Int), ∃ (pn2 : Int), ∃ (sg2 : Int), w = [cO pr 3 [.int (zI ta2), .int (zI bo2), .int (zI le2), .int (zI ri2), .int (zI pn2), .int (zI sg2)]] ∧ ((r = 1 ∧ stp (ta, bo, le, ri, pn, sg) ch = some (ta2, bo2, le2, ri2, pn2, sg2)) ∨ (r = 0 ∧ stp (ta, bo, le, ri, pn, sg) ch = none)) ∧ (Zok ta2 bo2 le2 ri2 pn2 sg2)) := by
  refine MI.of RX3 ⟨rfl, by decide +kernel⟩ (Or.inr rfl) (Nat.le_of_ble_eq_true rfl) (fun _ r w h => by obtain ⟨_, _, _, _, _, _, -, h⟩ := h; omega) ?_
  intro K C hret
  change K 0 0 _ [(0, .ref pr), (1, .int (zI ch))] 0 []
  refine y_iload_n C 1 dX3_takes_0 rfl ?_
  refine y_bipush C dX3_takes_1 (by decide +kernel) ?_
  refine y_icmp_lt C 19 dX3_takes_3 (by decide) ⟨⟨by omega, by omega⟩, ⟨by omega, by omega⟩⟩ (fun c_1 => ?_) (fun c_1 => ?_)
  · refine y_bipush C dX3_takes_19 (by decide +kernel) ?_
    refine y_istore_n C [(2, .int (zI (-4))), (0, .ref pr), (1, .int (zI ch))] dX3_takes_21 (by decide) rfl ?_
    have hdg : (((-4) : Int) = -4 ∧ ¬ (48 ≤ ch ∧ ch ≤ 57)) ∨ (((-4) : Int) = ch - 48 ∧ 48 ≤ ch ∧ ch ≤ 57) := by omega
    refine y_aload_n C 1 dX3_takes_22 rfl ?_
    refine y_get C fg_X3_11 0 dX3_takes_23 rfl rfl ?_
    rcases (show sg = 0 ∨ sg = 1 ∨ sg = 2 ∨ sg = 3 ∨ sg = 4 ∨ sg = 5 ∨ sg = 6 ∨ sg = 7 ∨ sg = 8 ∨ sg = 9 from by omega) with s_2 | s_2 | s_2 | s_2 | s_2 | s_2 | s_2 | s_2 | s_2 | s_2
    · refine y_tin C 80 0 dX3_takes_26 ⟨by omega, by omega⟩ ⟨by omega, by omega⟩ (by omega) rfl (by decide) ?_
      refine y_aload_n C 1 dX3_takes_80 rfl ?_
      refine y_iload_n C 0 dX3_takes_81 rfl ?_
      refine y_mcalli C (m_X3_takesTop (l := l) (D := D) (cA := cA) (cB := cB) (pr := pr) (ta := ta) (bo := bo) (le := le) (ri := ri) (pn := pn) (sg := sg) (dg := (-4)) (by exact ⟨by omega, by omega⟩)) lk_X3_15 [0] [] ⟨rfl, rfl, by decide, by decide, by decide⟩ (jb := 0) rfl rfl dX3_takes_82 rfl rfl ⟨by exact Nat.le_of_ble_eq_true rfl, by exact Nat.le_of_ble_eq_true rfl, rfl, rfl, by exact Nat.le_of_ble_eq_true rfl, by exact Nat.le_of_ble_eq_true rfl, by exact Nat.le_of_ble_eq_true rfl⟩ (fun r_4 w_11 h_3 => ?_)
      obtain ⟨ta2_5, bo2_6, le2_7, ri2_8, pn2_9, sg2_10, rfl, h_3⟩ := h_3
      refine ⟨[0], [cO pr 3 [.int (zI ta2_5), .int (zI bo2_6), .int (zI le2_7), .int (zI ri2_8), .int (zI pn2_9), .int (zI sg2_10)]], ⟨rfl, by decide⟩, ?_⟩
      have hgo := h_3
      refine hret _ _ _ _ dX3_takes_85 ⟨ta2_5, bo2_6, le2_7, ri2_8, pn2_9, sg2_10, rfl, ?_⟩
      show ((r_4 = 1 ∧ stp (ta, bo, le, ri, pn, sg) ch = some (ta2_5, bo2_6, le2_7, ri2_8, pn2_9, sg2_10)) ∨ (r_4 = 0 ∧ stp (ta, bo, le, ri, pn, sg) ch = none)) ∧ (Zok ta2_5 bo2_6 le2_7 ri2_8 pn2_9 sg2_10)
      obtain rfl : sg = 0 := by omega
      rw [stp0]
      rcases hgo with hgo | hgo
      · exact ⟨Or.inl ⟨hgo.1, by (repeat' split) <;> first | rfl | (exfalso; omega) | exact some6 (by omega)⟩, stp_ok hzok (c := ch) (by rw [stp0]; (repeat' split) <;> first | rfl | (exfalso; omega) | exact some6 (by omega))⟩
      · exact ⟨Or.inr ⟨hgo.1, by (repeat' split) <;> first | rfl | (exfalso; omega)⟩, by omega⟩
    · refine y_tin C 86 1 dX3_takes_26 ⟨by omega, by omega⟩ ⟨by omega, by omega⟩ (by omega) rfl (by decide) ?_
      refine y_iload_n C 2 dX3_takes_86 rfl ?_
      refine y_bipush C dX3_takes_87 (by decide +kernel) ?_
      refine y_icmp_ne C 100 dX3_takes_89 (by decide) ⟨⟨by omega, by omega⟩, ⟨by omega, by omega⟩⟩ (fun c_12 => ?_) (fun c_12 => ?_)
      · refine y_iload_n C 2 dX3_takes_100 rfl ?_
        refine y_bipush C dX3_takes_101 (by decide +kernel) ?_
        refine y_icmp_ne C 118 dX3_takes_103 (by decide) ⟨⟨by omega, by omega⟩, ⟨by omega, by omega⟩⟩ (fun c_13 => ?_) (fun c_13 => ?_)
        · refine y_iconst C dX3_takes_118 ?_
          refine hret _ _ _ _ dX3_takes_119 ⟨ta, bo, le, ri, pn, sg, rfl, ?_⟩
          show ((0 = 1 ∧ stp (ta, bo, le, ri, pn, sg) ch = some (ta, bo, le, ri, pn, sg)) ∨ (0 = 0 ∧ stp (ta, bo, le, ri, pn, sg) ch = none)) ∧ (Zok ta bo le ri pn sg)
          obtain rfl : sg = 1 := by omega
          have hst : ∀ z, stp (ta, bo, le, ri, pn, 1) ch = z → stp (ta, bo, le, ri, pn, 1) ch = z := fun _ e => e
          rw [stp1] at hst
          rw [stp1]
          first | (refine ⟨Or.inl ⟨by omega, ?_⟩, stp_ok hzok (c := ch) (by rw [stp1]; (repeat' split) <;> first | rfl | (exfalso; omega) | exact some6 (by omega))⟩; (repeat' split) <;> first | rfl | (exfalso; omega) | exact some6 (by omega)) | (refine ⟨Or.inr ⟨by omega, ?_⟩, by omega⟩; (repeat' split) <;> first | rfl | (exfalso; omega))
        · refine y_aload_n C 1 dX3_takes_106 rfl ?_
          refine y_iconst C dX3_takes_107 ?_
          refine y_mcalli C (m_X3_goesOn (l := l) (D := D) (cA := cA) (cB := cB) (pr := pr) (ta := ta) (bo := bo) (le := le) (ri := ri) (pn := pn) (sg := sg) (nx := 4) ) lk_X3_19 [0] [] ⟨rfl, rfl, by decide, by decide, by decide⟩ (jb := 0) rfl rfl dX3_takes_108 rfl rfl ⟨by exact Nat.le_of_ble_eq_true rfl, by exact Nat.le_of_ble_eq_true rfl, rfl, rfl, by exact Nat.le_of_ble_eq_true rfl, by exact Nat.le_of_ble_eq_true rfl, by exact Nat.le_of_ble_eq_true rfl⟩ (fun r_15 w_16 h_14 => ?_)
          obtain ⟨rfl, h_14⟩ := h_14
          refine ⟨[0], [cO pr 3 [.int (zI ta), .int (zI bo), .int (zI le), .int (zI ri), .int (zI pn), .int (zI 4)]], ⟨rfl, by decide⟩, ?_⟩
          have hgo := h_14
          refine y_if_eq C 118 dX3_takes_111 (by decide) ⟨by omega, by omega⟩ (fun c_17 => ?_) (fun c_17 => ?_)
          · refine y_iconst C dX3_takes_118 ?_
            refine hret _ _ _ _ dX3_takes_119 ⟨ta, bo, le, ri, pn, 4, rfl, ?_⟩
            show ((0 = 1 ∧ stp (ta, bo, le, ri, pn, sg) ch = some (ta, bo, le, ri, pn, 4)) ∨ (0 = 0 ∧ stp (ta, bo, le, ri, pn, sg) ch = none)) ∧ (Zok ta bo le ri pn 4)
            obtain rfl : sg = 1 := by omega
            have hst : ∀ z, stp (ta, bo, le, ri, pn, 1) ch = z → stp (ta, bo, le, ri, pn, 1) ch = z := fun _ e => e
            rw [stp1] at hst
            rw [stp1]
            first | (refine ⟨Or.inl ⟨by omega, ?_⟩, stp_ok hzok (c := ch) (by rw [stp1]; (repeat' split) <;> first | rfl | (exfalso; omega) | exact some6 (by omega))⟩; (repeat' split) <;> first | rfl | (exfalso; omega) | exact some6 (by omega)) | (refine ⟨Or.inr ⟨by omega, ?_⟩, by omega⟩; (repeat' split) <;> first | rfl | (exfalso; omega))
          · refine y_iconst C dX3_takes_114 ?_
            refine y_goto C 119 dX3_takes_115 (by decide) ?_
            refine hret _ _ _ _ dX3_takes_119 ⟨ta, bo, le, ri, pn, 4, rfl, ?_⟩
            show ((1 = 1 ∧ stp (ta, bo, le, ri, pn, sg) ch = some (ta, bo, le, ri, pn, 4)) ∨ (1 = 0 ∧ stp (ta, bo, le, ri, pn, sg) ch = none)) ∧ (Zok ta bo le ri pn 4)
            obtain rfl : sg = 1 := by omega
            have hst : ∀ z, stp (ta, bo, le, ri, pn, 1) ch = z → stp (ta, bo, le, ri, pn, 1) ch = z := fun _ e => e
            rw [stp1] at hst
            rw [stp1]
            first | (refine ⟨Or.inl ⟨by omega, ?_⟩, stp_ok hzok (c := ch) (by rw [stp1]; (repeat' split) <;> first | rfl | (exfalso; omega) | exact some6 (by omega))⟩; (repeat' split) <;> first | rfl | (exfalso; omega) | exact some6 (by omega)) | (refine ⟨Or.inr ⟨by omega, ?_⟩, by omega⟩; (repeat' split) <;> first | rfl | (exfalso; omega))
      · refine y_aload_n C 1 dX3_takes_92 rfl ?_
        refine y_iconst C dX3_takes_93 ?_
        refine y_mcalli C (m_X3_goesOn (l := l) (D := D) (cA := cA) (cB := cB) (pr := pr) (ta := ta) (bo := bo) (le := le) (ri := ri) (pn := pn) (sg := sg) (nx := 2) ) lk_X3_19 [0] [] ⟨rfl, rfl, by decide, by decide, by decide⟩ (jb := 0) rfl rfl dX3_takes_94 rfl rfl ⟨by exact Nat.le_of_ble_eq_true rfl, by exact Nat.le_of_ble_eq_true rfl, rfl, rfl, by exact Nat.le_of_ble_eq_true rfl, by exact Nat.le_of_ble_eq_true rfl, by exact Nat.le_of_ble_eq_true rfl⟩ (fun r_19 w_20 h_18 => ?_)
        obtain ⟨rfl, h_18⟩ := h_18
        refine ⟨[0], [cO pr 3 [.int (zI ta), .int (zI bo), .int (zI le), .int (zI ri), .int (zI pn), .int (zI 2)]], ⟨rfl, by decide⟩, ?_⟩
        have hgo := h_18
        refine y_goto C 119 dX3_takes_97 (by decide) ?_
        refine hret _ _ _ _ dX3_takes_119 ⟨ta, bo, le, ri, pn, 2, rfl, ?_⟩
        show ((r_19 = 1 ∧ stp (ta, bo, le, ri, pn, sg) ch = some (ta, bo, le, ri, pn, 2)) ∨ (r_19 = 0 ∧ stp (ta, bo, le, ri, pn, sg) ch = none)) ∧ (Zok ta bo le ri pn 2)
        obtain rfl : sg = 1 := by omega
        have hst : ∀ z, stp (ta, bo, le, ri, pn, 1) ch = z → stp (ta, bo, le, ri, pn, 1) ch = z := fun _ e => e
        rw [stp1] at hst
        rw [stp1]
        first | (refine ⟨Or.inl ⟨by omega, ?_⟩, stp_ok hzok (c := ch) (by rw [stp1]; (repeat' split) <;> first | rfl | (exfalso; omega) | exact some6 (by omega))⟩; (repeat' split) <;> first | rfl | (exfalso; omega) | exact some6 (by omega)) | (refine ⟨Or.inr ⟨by omega, ?_⟩, by omega⟩; (repeat' split) <;> first | rfl | (exfalso; omega))
    · refine y_tin C 120 2 dX3_takes_26 ⟨by omega, by omega⟩ ⟨by omega, by omega⟩ (by omega) rfl (by decide) ?_
      refine y_aload_n C 1 dX3_takes_120 rfl ?_
      refine y_iload_n C 0 dX3_takes_121 rfl ?_
      refine y_mcalli C (m_X3_takesBottom (l := l) (D := D) (cA := cA) (cB := cB) (pr := pr) (ta := ta) (bo := bo) (le := le) (ri := ri) (pn := pn) (sg := sg) (dg := (-4)) (by exact ⟨by omega, by omega⟩) (by first | assumption | omega | exact ⟨by omega, by omega⟩)) lk_X3_22 [0] [] ⟨rfl, rfl, by decide, by decide, by decide⟩ (jb := 0) rfl rfl dX3_takes_122 rfl rfl ⟨by exact Nat.le_of_ble_eq_true rfl, by exact Nat.le_of_ble_eq_true rfl, rfl, rfl, by exact Nat.le_of_ble_eq_true rfl, by exact Nat.le_of_ble_eq_true rfl, by exact Nat.le_of_ble_eq_true rfl⟩ (fun r_22 w_29 h_21 => ?_)
      obtain ⟨ta2_23, bo2_24, le2_25, ri2_26, pn2_27, sg2_28, rfl, h_21⟩ := h_21
      refine ⟨[0], [cO pr 3 [.int (zI ta2_23), .int (zI bo2_24), .int (zI le2_25), .int (zI ri2_26), .int (zI pn2_27), .int (zI sg2_28)]], ⟨rfl, by decide⟩, ?_⟩
      have hgo := h_21
      refine hret _ _ _ _ dX3_takes_125 ⟨ta2_23, bo2_24, le2_25, ri2_26, pn2_27, sg2_28, rfl, ?_⟩
      show ((r_22 = 1 ∧ stp (ta, bo, le, ri, pn, sg) ch = some (ta2_23, bo2_24, le2_25, ri2_26, pn2_27, sg2_28)) ∨ (r_22 = 0 ∧ stp (ta, bo, le, ri, pn, sg) ch = none)) ∧ (Zok ta2_23 bo2_24 le2_25 ri2_26 pn2_27 sg2_28)
      obtain rfl : sg = 2 := by omega
      rw [stp2]
      rcases hgo with hgo | hgo
      · exact ⟨Or.inl ⟨hgo.1, by (repeat' split) <;> first | rfl | (exfalso; omega) | exact some6 (by omega)⟩, stp_ok hzok (c := ch) (by rw [stp2]; (repeat' split) <;> first | rfl | (exfalso; omega) | exact some6 (by omega))⟩
      · exact ⟨Or.inr ⟨hgo.1, by (repeat' split) <;> first | rfl | (exfalso; omega)⟩, by omega⟩
    · refine y_tin C 126 3 dX3_takes_26 ⟨by omega, by omega⟩ ⟨by omega, by omega⟩ (by omega) rfl (by decide) ?_
      refine y_iload_n C 2 dX3_takes_126 rfl ?_
      refine y_bipush C dX3_takes_127 (by decide +kernel) ?_
      refine y_icmp_ne C 144 dX3_takes_129 (by decide) ⟨⟨by omega, by omega⟩, ⟨by omega, by omega⟩⟩ (fun c_30 => ?_) (fun c_30 => ?_)
      · refine y_iconst C dX3_takes_144 ?_
        refine hret _ _ _ _ dX3_takes_145 ⟨ta, bo, le, ri, pn, sg, rfl, ?_⟩
        show ((0 = 1 ∧ stp (ta, bo, le, ri, pn, sg) ch = some (ta, bo, le, ri, pn, sg)) ∨ (0 = 0 ∧ stp (ta, bo, le, ri, pn, sg) ch = none)) ∧ (Zok ta bo le ri pn sg)
        obtain rfl : sg = 3 := by omega
        have hst : ∀ z, stp (ta, bo, le, ri, pn, 3) ch = z → stp (ta, bo, le, ri, pn, 3) ch = z := fun _ e => e
        rw [stp3] at hst
        rw [stp3]
        first | (refine ⟨Or.inl ⟨by omega, ?_⟩, stp_ok hzok (c := ch) (by rw [stp3]; (repeat' split) <;> first | rfl | (exfalso; omega) | exact some6 (by omega))⟩; (repeat' split) <;> first | rfl | (exfalso; omega) | exact some6 (by omega)) | (refine ⟨Or.inr ⟨by omega, ?_⟩, by omega⟩; (repeat' split) <;> first | rfl | (exfalso; omega))
      · refine y_aload_n C 1 dX3_takes_132 rfl ?_
        refine y_iconst C dX3_takes_133 ?_
        refine y_mcalli C (m_X3_goesOn (l := l) (D := D) (cA := cA) (cB := cB) (pr := pr) (ta := ta) (bo := bo) (le := le) (ri := ri) (pn := pn) (sg := sg) (nx := 4) ) lk_X3_19 [0] [] ⟨rfl, rfl, by decide, by decide, by decide⟩ (jb := 0) rfl rfl dX3_takes_134 rfl rfl ⟨by exact Nat.le_of_ble_eq_true rfl, by exact Nat.le_of_ble_eq_true rfl, rfl, rfl, by exact Nat.le_of_ble_eq_true rfl, by exact Nat.le_of_ble_eq_true rfl, by exact Nat.le_of_ble_eq_true rfl⟩ (fun r_32 w_33 h_31 => ?_)
        obtain ⟨rfl, h_31⟩ := h_31
        refine ⟨[0], [cO pr 3 [.int (zI ta), .int (zI bo), .int (zI le), .int (zI ri), .int (zI pn), .int (zI 4)]], ⟨rfl, by decide⟩, ?_⟩
        have hgo := h_31
        refine y_if_eq C 144 dX3_takes_137 (by decide) ⟨by omega, by omega⟩ (fun c_34 => ?_) (fun c_34 => ?_)
        · refine y_iconst C dX3_takes_144 ?_
          refine hret _ _ _ _ dX3_takes_145 ⟨ta, bo, le, ri, pn, 4, rfl, ?_⟩
          show ((0 = 1 ∧ stp (ta, bo, le, ri, pn, sg) ch = some (ta, bo, le, ri, pn, 4)) ∨ (0 = 0 ∧ stp (ta, bo, le, ri, pn, sg) ch = none)) ∧ (Zok ta bo le ri pn 4)
          obtain rfl : sg = 3 := by omega
          have hst : ∀ z, stp (ta, bo, le, ri, pn, 3) ch = z → stp (ta, bo, le, ri, pn, 3) ch = z := fun _ e => e
          rw [stp3] at hst
          rw [stp3]
          first | (refine ⟨Or.inl ⟨by omega, ?_⟩, stp_ok hzok (c := ch) (by rw [stp3]; (repeat' split) <;> first | rfl | (exfalso; omega) | exact some6 (by omega))⟩; (repeat' split) <;> first | rfl | (exfalso; omega) | exact some6 (by omega)) | (refine ⟨Or.inr ⟨by omega, ?_⟩, by omega⟩; (repeat' split) <;> first | rfl | (exfalso; omega))
        · refine y_iconst C dX3_takes_140 ?_
          refine y_goto C 145 dX3_takes_141 (by decide) ?_
          refine hret _ _ _ _ dX3_takes_145 ⟨ta, bo, le, ri, pn, 4, rfl, ?_⟩
          show ((1 = 1 ∧ stp (ta, bo, le, ri, pn, sg) ch = some (ta, bo, le, ri, pn, 4)) ∨ (1 = 0 ∧ stp (ta, bo, le, ri, pn, sg) ch = none)) ∧ (Zok ta bo le ri pn 4)
          obtain rfl : sg = 3 := by omega
          have hst : ∀ z, stp (ta, bo, le, ri, pn, 3) ch = z → stp (ta, bo, le, ri, pn, 3) ch = z := fun _ e => e
          rw [stp3] at hst
          rw [stp3]
          first | (refine ⟨Or.inl ⟨by omega, ?_⟩, stp_ok hzok (c := ch) (by rw [stp3]; (repeat' split) <;> first | rfl | (exfalso; omega) | exact some6 (by omega))⟩; (repeat' split) <;> first | rfl | (exfalso; omega) | exact some6 (by omega)) | (refine ⟨Or.inr ⟨by omega, ?_⟩, by omega⟩; (repeat' split) <;> first | rfl | (exfalso; omega))
    · refine y_tin C 146 4 dX3_takes_26 ⟨by omega, by omega⟩ ⟨by omega, by omega⟩ (by omega) rfl (by decide) ?_
      refine y_iload_n C 0 dX3_takes_146 rfl ?_
      refine y_bipush C dX3_takes_147 (by decide +kernel) ?_
      refine y_icmp_eq C 164 dX3_takes_149 (by decide) ⟨⟨by omega, by omega⟩, ⟨by omega, by omega⟩⟩ (fun _ => ?_) (fun h => absurd h (by decide))
      refine y_iconst C dX3_takes_164 ?_
      refine hret _ _ _ _ dX3_takes_165 ⟨ta, bo, le, ri, pn, sg, rfl, ?_⟩
      show ((0 = 1 ∧ stp (ta, bo, le, ri, pn, sg) ch = some (ta, bo, le, ri, pn, sg)) ∨ (0 = 0 ∧ stp (ta, bo, le, ri, pn, sg) ch = none)) ∧ (Zok ta bo le ri pn sg)
      obtain rfl : sg = 4 := by omega
      have hst : ∀ z, stp (ta, bo, le, ri, pn, 4) ch = z → stp (ta, bo, le, ri, pn, 4) ch = z := fun _ e => e
      rw [stp4] at hst
      rw [stp4]
      first | (refine ⟨Or.inl ⟨by omega, ?_⟩, stp_ok hzok (c := ch) (by rw [stp4]; (repeat' split) <;> first | rfl | (exfalso; omega) | exact some6 (by omega))⟩; (repeat' split) <;> first | rfl | (exfalso; omega) | exact some6 (by omega)) | (refine ⟨Or.inr ⟨by omega, ?_⟩, by omega⟩; (repeat' split) <;> first | rfl | (exfalso; omega))
    · refine y_tin C 166 5 dX3_takes_26 ⟨by omega, by omega⟩ ⟨by omega, by omega⟩ (by omega) rfl (by decide) ?_
      refine y_aload_n C 1 dX3_takes_166 rfl ?_
      refine y_iload_n C 2 dX3_takes_167 rfl ?_
      refine y_iload_n C 0 dX3_takes_168 rfl ?_
      refine y_mcalli C (m_X3_takesBehindLeft (l := l) (D := D) (cA := cA) (cB := cB) (pr := pr) (ta := ta) (bo := bo) (le := le) (ri := ri) (pn := pn) (sg := sg) (ch := ch) (dg := (-4)) (by first | assumption | omega | exact ⟨by omega, by omega⟩) (by first | assumption | omega | exact ⟨by omega, by omega⟩) (by first | assumption | omega | exact ⟨by omega, by omega⟩) (by first | assumption | omega | exact ⟨by omega, by omega⟩)) lk_X3_28 [0] [] ⟨rfl, rfl, by decide, by decide, by decide⟩ (jb := 0) rfl rfl dX3_takes_169 rfl rfl ⟨by exact Nat.le_of_ble_eq_true rfl, by exact Nat.le_of_ble_eq_true rfl, rfl, rfl, by exact Nat.le_of_ble_eq_true rfl, by exact Nat.le_of_ble_eq_true rfl, by exact Nat.le_of_ble_eq_true rfl⟩ (fun r_37 w_44 h_36 => ?_)
      obtain ⟨ta2_38, bo2_39, le2_40, ri2_41, pn2_42, sg2_43, rfl, h_36⟩ := h_36
      refine ⟨[0], [cO pr 3 [.int (zI ta2_38), .int (zI bo2_39), .int (zI le2_40), .int (zI ri2_41), .int (zI pn2_42), .int (zI sg2_43)]], ⟨rfl, by decide⟩, ?_⟩
      have hgo := h_36
      refine hret _ _ _ _ dX3_takes_172 ⟨ta2_38, bo2_39, le2_40, ri2_41, pn2_42, sg2_43, rfl, ?_⟩
      show ((r_37 = 1 ∧ stp (ta, bo, le, ri, pn, sg) ch = some (ta2_38, bo2_39, le2_40, ri2_41, pn2_42, sg2_43)) ∨ (r_37 = 0 ∧ stp (ta, bo, le, ri, pn, sg) ch = none)) ∧ (Zok ta2_38 bo2_39 le2_40 ri2_41 pn2_42 sg2_43)
      obtain rfl : sg = 5 := by omega
      rcases hgo with ⟨h1, h2⟩ | ⟨h1, h2, h3⟩
      · exact ⟨Or.inl ⟨h1, h2⟩, stp_ok hzok h2⟩
      · exact ⟨Or.inr ⟨h1, h2⟩, by omega⟩
    · refine y_tin C 173 6 dX3_takes_26 ⟨by omega, by omega⟩ ⟨by omega, by omega⟩ (by omega) rfl (by decide) ?_
      refine y_iload_n C 0 dX3_takes_173 rfl ?_
      refine y_bipush C dX3_takes_174 (by decide +kernel) ?_
      refine y_icmp_eq C 191 dX3_takes_176 (by decide) ⟨⟨by omega, by omega⟩, ⟨by omega, by omega⟩⟩ (fun _ => ?_) (fun h => absurd h (by decide))
      refine y_iconst C dX3_takes_191 ?_
      refine hret _ _ _ _ dX3_takes_192 ⟨ta, bo, le, ri, pn, sg, rfl, ?_⟩
      show ((0 = 1 ∧ stp (ta, bo, le, ri, pn, sg) ch = some (ta, bo, le, ri, pn, sg)) ∨ (0 = 0 ∧ stp (ta, bo, le, ri, pn, sg) ch = none)) ∧ (Zok ta bo le ri pn sg)
      obtain rfl : sg = 6 := by omega
      have hst : ∀ z, stp (ta, bo, le, ri, pn, 6) ch = z → stp (ta, bo, le, ri, pn, 6) ch = z := fun _ e => e
      rw [stp6] at hst
      rw [stp6]
      first | (refine ⟨Or.inl ⟨by omega, ?_⟩, stp_ok hzok (c := ch) (by rw [stp6]; (repeat' split) <;> first | rfl | (exfalso; omega) | exact some6 (by omega))⟩; (repeat' split) <;> first | rfl | (exfalso; omega) | exact some6 (by omega)) | (refine ⟨Or.inr ⟨by omega, ?_⟩, by omega⟩; (repeat' split) <;> first | rfl | (exfalso; omega))
    · refine y_tin C 193 7 dX3_takes_26 ⟨by omega, by omega⟩ ⟨by omega, by omega⟩ (by omega) rfl (by decide) ?_
      refine y_aload_n C 1 dX3_takes_193 rfl ?_
      refine y_iload_n C 2 dX3_takes_194 rfl ?_
      refine y_iload_n C 0 dX3_takes_195 rfl ?_
      refine y_mcalli C (m_X3_takesBehindRight (l := l) (D := D) (cA := cA) (cB := cB) (pr := pr) (ta := ta) (bo := bo) (le := le) (ri := ri) (pn := pn) (sg := sg) (ch := ch) (dg := (-4)) (by first | assumption | omega | exact ⟨by omega, by omega⟩) (by first | assumption | omega | exact ⟨by omega, by omega⟩) (by first | assumption | omega | exact ⟨by omega, by omega⟩) (by first | assumption | omega | exact ⟨by omega, by omega⟩)) lk_X3_35 [0] [] ⟨rfl, rfl, by decide, by decide, by decide⟩ (jb := 0) rfl rfl dX3_takes_196 rfl rfl ⟨by exact Nat.le_of_ble_eq_true rfl, by exact Nat.le_of_ble_eq_true rfl, rfl, rfl, by exact Nat.le_of_ble_eq_true rfl, by exact Nat.le_of_ble_eq_true rfl, by exact Nat.le_of_ble_eq_true rfl⟩ (fun r_47 w_54 h_46 => ?_)
      obtain ⟨ta2_48, bo2_49, le2_50, ri2_51, pn2_52, sg2_53, rfl, h_46⟩ := h_46
      refine ⟨[0], [cO pr 3 [.int (zI ta2_48), .int (zI bo2_49), .int (zI le2_50), .int (zI ri2_51), .int (zI pn2_52), .int (zI sg2_53)]], ⟨rfl, by decide⟩, ?_⟩
      have hgo := h_46
      refine hret _ _ _ _ dX3_takes_199 ⟨ta2_48, bo2_49, le2_50, ri2_51, pn2_52, sg2_53, rfl, ?_⟩
      show ((r_47 = 1 ∧ stp (ta, bo, le, ri, pn, sg) ch = some (ta2_48, bo2_49, le2_50, ri2_51, pn2_52, sg2_53)) ∨ (r_47 = 0 ∧ stp (ta, bo, le, ri, pn, sg) ch = none)) ∧ (Zok ta2_48 bo2_49 le2_50 ri2_51 pn2_52 sg2_53)
      obtain rfl : sg = 7 := by omega
      rcases hgo with ⟨h1, h2⟩ | ⟨h1, h2, h3⟩
      · exact ⟨Or.inl ⟨h1, h2⟩, stp_ok hzok h2⟩
      · exact ⟨Or.inr ⟨h1, h2⟩, by omega⟩
    · refine y_tin C 200 8 dX3_takes_26 ⟨by omega, by omega⟩ ⟨by omega, by omega⟩ (by omega) rfl (by decide) ?_
      refine y_aload_n C 1 dX3_takes_200 rfl ?_
      refine y_iload_n C 0 dX3_takes_201 rfl ?_
      refine y_mcalli C (m_X3_takesPlane (l := l) (D := D) (cA := cA) (cB := cB) (pr := pr) (ta := ta) (bo := bo) (le := le) (ri := ri) (pn := pn) (sg := sg) (dg := (-4)) (by exact ⟨by omega, by omega⟩)) lk_X3_38 [0] [] ⟨rfl, rfl, by decide, by decide, by decide⟩ (jb := 0) rfl rfl dX3_takes_202 rfl rfl ⟨by exact Nat.le_of_ble_eq_true rfl, by exact Nat.le_of_ble_eq_true rfl, rfl, rfl, by exact Nat.le_of_ble_eq_true rfl, by exact Nat.le_of_ble_eq_true rfl, by exact Nat.le_of_ble_eq_true rfl⟩ (fun r_56 w_63 h_55 => ?_)
      obtain ⟨ta2_57, bo2_58, le2_59, ri2_60, pn2_61, sg2_62, rfl, h_55⟩ := h_55
      refine ⟨[0], [cO pr 3 [.int (zI ta2_57), .int (zI bo2_58), .int (zI le2_59), .int (zI ri2_60), .int (zI pn2_61), .int (zI sg2_62)]], ⟨rfl, by decide⟩, ?_⟩
      have hgo := h_55
      refine hret _ _ _ _ dX3_takes_205 ⟨ta2_57, bo2_58, le2_59, ri2_60, pn2_61, sg2_62, rfl, ?_⟩
      show ((r_56 = 1 ∧ stp (ta, bo, le, ri, pn, sg) ch = some (ta2_57, bo2_58, le2_59, ri2_60, pn2_61, sg2_62)) ∨ (r_56 = 0 ∧ stp (ta, bo, le, ri, pn, sg) ch = none)) ∧ (Zok ta2_57 bo2_58 le2_59 ri2_60 pn2_61 sg2_62)
      obtain rfl : sg = 8 := by omega
      rw [stp8]
      rcases hgo with hgo | hgo
      · exact ⟨Or.inl ⟨hgo.1, by (repeat' split) <;> first | rfl | (exfalso; omega) | exact some6 (by omega)⟩, stp_ok hzok (c := ch) (by rw [stp8]; (repeat' split) <;> first | rfl | (exfalso; omega) | exact some6 (by omega))⟩
      · exact ⟨Or.inr ⟨hgo.1, by (repeat' split) <;> first | rfl | (exfalso; omega)⟩, by omega⟩
    · refine y_tin C 206 9 dX3_takes_26 ⟨by omega, by omega⟩ ⟨by omega, by omega⟩ (by omega) rfl (by decide) ?_
      refine y_iload_n C 2 dX3_takes_206 rfl ?_
      refine y_bipush C dX3_takes_207 (by decide +kernel) ?_
      refine y_icmp_ne C 224 dX3_takes_209 (by decide) ⟨⟨by omega, by omega⟩, ⟨by omega, by omega⟩⟩ (fun c_64 => ?_) (fun c_64 => ?_)
      · refine y_iconst C dX3_takes_224 ?_
        refine hret _ _ _ _ dX3_takes_225 ⟨ta, bo, le, ri, pn, sg, rfl, ?_⟩
        show ((0 = 1 ∧ stp (ta, bo, le, ri, pn, sg) ch = some (ta, bo, le, ri, pn, sg)) ∨ (0 = 0 ∧ stp (ta, bo, le, ri, pn, sg) ch = none)) ∧ (Zok ta bo le ri pn sg)
        obtain rfl : sg = 9 := by omega
        have hst : ∀ z, stp (ta, bo, le, ri, pn, 9) ch = z → stp (ta, bo, le, ri, pn, 9) ch = z := fun _ e => e
        rw [stp9] at hst
        rw [stp9]
        first | (refine ⟨Or.inl ⟨by omega, ?_⟩, stp_ok hzok (c := ch) (by rw [stp9]; (repeat' split) <;> first | rfl | (exfalso; omega) | exact some6 (by omega))⟩; (repeat' split) <;> first | rfl | (exfalso; omega) | exact some6 (by omega)) | (refine ⟨Or.inr ⟨by omega, ?_⟩, by omega⟩; (repeat' split) <;> first | rfl | (exfalso; omega))
      · refine y_aload_n C 1 dX3_takes_212 rfl ?_
        refine y_iconst C dX3_takes_213 ?_
        refine y_mcalli C (m_X3_goesOn (l := l) (D := D) (cA := cA) (cB := cB) (pr := pr) (ta := ta) (bo := bo) (le := le) (ri := ri) (pn := pn) (sg := sg) (nx := 0) ) lk_X3_19 [0] [] ⟨rfl, rfl, by decide, by decide, by decide⟩ (jb := 0) rfl rfl dX3_takes_214 rfl rfl ⟨by exact Nat.le_of_ble_eq_true rfl, by exact Nat.le_of_ble_eq_true rfl, rfl, rfl, by exact Nat.le_of_ble_eq_true rfl, by exact Nat.le_of_ble_eq_true rfl, by exact Nat.le_of_ble_eq_true rfl⟩ (fun r_66 w_67 h_65 => ?_)
        obtain ⟨rfl, h_65⟩ := h_65
        refine ⟨[0], [cO pr 3 [.int (zI ta), .int (zI bo), .int (zI le), .int (zI ri), .int (zI pn), .int (zI 0)]], ⟨rfl, by decide⟩, ?_⟩
        have hgo := h_65
        refine y_if_eq C 224 dX3_takes_217 (by decide) ⟨by omega, by omega⟩ (fun c_68 => ?_) (fun c_68 => ?_)
        · refine y_iconst C dX3_takes_224 ?_
          refine hret _ _ _ _ dX3_takes_225 ⟨ta, bo, le, ri, pn, 0, rfl, ?_⟩
          show ((0 = 1 ∧ stp (ta, bo, le, ri, pn, sg) ch = some (ta, bo, le, ri, pn, 0)) ∨ (0 = 0 ∧ stp (ta, bo, le, ri, pn, sg) ch = none)) ∧ (Zok ta bo le ri pn 0)
          obtain rfl : sg = 9 := by omega
          have hst : ∀ z, stp (ta, bo, le, ri, pn, 9) ch = z → stp (ta, bo, le, ri, pn, 9) ch = z := fun _ e => e
          rw [stp9] at hst
          rw [stp9]
          first | (refine ⟨Or.inl ⟨by omega, ?_⟩, stp_ok hzok (c := ch) (by rw [stp9]; (repeat' split) <;> first | rfl | (exfalso; omega) | exact some6 (by omega))⟩; (repeat' split) <;> first | rfl | (exfalso; omega) | exact some6 (by omega)) | (refine ⟨Or.inr ⟨by omega, ?_⟩, by omega⟩; (repeat' split) <;> first | rfl | (exfalso; omega))
        · refine y_iconst C dX3_takes_220 ?_
          refine y_goto C 225 dX3_takes_221 (by decide) ?_
          refine hret _ _ _ _ dX3_takes_225 ⟨ta, bo, le, ri, pn, 0, rfl, ?_⟩
          show ((1 = 1 ∧ stp (ta, bo, le, ri, pn, sg) ch = some (ta, bo, le, ri, pn, 0)) ∨ (1 = 0 ∧ stp (ta, bo, le, ri, pn, sg) ch = none)) ∧ (Zok ta bo le ri pn 0)
          obtain rfl : sg = 9 := by omega
          have hst : ∀ z, stp (ta, bo, le, ri, pn, 9) ch = z → stp (ta, bo, le, ri, pn, 9) ch = z := fun _ e => e
          rw [stp9] at hst
          rw [stp9]
          first | (refine ⟨Or.inl ⟨by omega, ?_⟩, stp_ok hzok (c := ch) (by rw [stp9]; (repeat' split) <;> first | rfl | (exfalso; omega) | exact some6 (by omega))⟩; (repeat' split) <;> first | rfl | (exfalso; omega) | exact some6 (by omega)) | (refine ⟨Or.inr ⟨by omega, ?_⟩, by omega⟩; (repeat' split) <;> first | rfl | (exfalso; omega))
  · refine y_iload_n C 1 dX3_takes_6 rfl ?_
    refine y_bipush C dX3_takes_7 (by decide +kernel) ?_
    refine y_icmp_gt C 19 dX3_takes_9 (by decide) ⟨⟨by omega, by omega⟩, ⟨by omega, by omega⟩⟩ (fun c_69 => ?_) (fun c_69 => ?_)
    · refine y_bipush C dX3_takes_19 (by decide +kernel) ?_
      refine y_istore_n C [(2, .int (zI (-4))), (0, .ref pr), (1, .int (zI ch))] dX3_takes_21 (by decide) rfl ?_
      have hdg : (((-4) : Int) = -4 ∧ ¬ (48 ≤ ch ∧ ch ≤ 57)) ∨ (((-4) : Int) = ch - 48 ∧ 48 ≤ ch ∧ ch ≤ 57) := by omega
      refine y_aload_n C 1 dX3_takes_22 rfl ?_
      refine y_get C fg_X3_11 0 dX3_takes_23 rfl rfl ?_
      rcases (show sg = 0 ∨ sg = 1 ∨ sg = 2 ∨ sg = 3 ∨ sg = 4 ∨ sg = 5 ∨ sg = 6 ∨ sg = 7 ∨ sg = 8 ∨ sg = 9 from by omega) with s_70 | s_70 | s_70 | s_70 | s_70 | s_70 | s_70 | s_70 | s_70 | s_70
      · refine y_tin C 80 0 dX3_takes_26 ⟨by omega, by omega⟩ ⟨by omega, by omega⟩ (by omega) rfl (by decide) ?_
        refine y_aload_n C 1 dX3_takes_80 rfl ?_
        refine y_iload_n C 0 dX3_takes_81 rfl ?_
        refine y_mcalli C (m_X3_takesTop (l := l) (D := D) (cA := cA) (cB := cB) (pr := pr) (ta := ta) (bo := bo) (le := le) (ri := ri) (pn := pn) (sg := sg) (dg := (-4)) (by exact ⟨by omega, by omega⟩)) lk_X3_15 [0] [] ⟨rfl, rfl, by decide, by decide, by decide⟩ (jb := 0) rfl rfl dX3_takes_82 rfl rfl ⟨by exact Nat.le_of_ble_eq_true rfl, by exact Nat.le_of_ble_eq_true rfl, rfl, rfl, by exact Nat.le_of_ble_eq_true rfl, by exact Nat.le_of_ble_eq_true rfl, by exact Nat.le_of_ble_eq_true rfl⟩ (fun r_72 w_79 h_71 => ?_)
        obtain ⟨ta2_73, bo2_74, le2_75, ri2_76, pn2_77, sg2_78, rfl, h_71⟩ := h_71
        refine ⟨[0], [cO pr 3 [.int (zI ta2_73), .int (zI bo2_74), .int (zI le2_75), .int (zI ri2_76), .int (zI pn2_77), .int (zI sg2_78)]], ⟨rfl, by decide⟩, ?_⟩
        have hgo := h_71
        refine hret _ _ _ _ dX3_takes_85 ⟨ta2_73, bo2_74, le2_75, ri2_76, pn2_77, sg2_78, rfl, ?_⟩
        show ((r_72 = 1 ∧ stp (ta, bo, le, ri, pn, sg) ch = some (ta2_73, bo2_74, le2_75, ri2_76, pn2_77, sg2_78)) ∨ (r_72 = 0 ∧ stp (ta, bo, le, ri, pn, sg) ch = none)) ∧ (Zok ta2_73 bo2_74 le2_75 ri2_76 pn2_77 sg2_78)
        obtain rfl : sg = 0 := by omega
        rw [stp0]
        rcases hgo with hgo | hgo
        · exact ⟨Or.inl ⟨hgo.1, by (repeat' split) <;> first | rfl | (exfalso; omega) | exact some6 (by omega)⟩, stp_ok hzok (c := ch) (by rw [stp0]; (repeat' split) <;> first | rfl | (exfalso; omega) | exact some6 (by omega))⟩
        · exact ⟨Or.inr ⟨hgo.1, by (repeat' split) <;> first | rfl | (exfalso; omega)⟩, by omega⟩
      · refine y_tin C 86 1 dX3_takes_26 ⟨by omega, by omega⟩ ⟨by omega, by omega⟩ (by omega) rfl (by decide) ?_
        refine y_iload_n C 2 dX3_takes_86 rfl ?_
        refine y_bipush C dX3_takes_87 (by decide +kernel) ?_
        refine y_icmp_ne C 100 dX3_takes_89 (by decide) ⟨⟨by omega, by omega⟩, ⟨by omega, by omega⟩⟩ (fun c_80 => ?_) (fun c_80 => ?_)
        · refine y_iload_n C 2 dX3_takes_100 rfl ?_
          refine y_bipush C dX3_takes_101 (by decide +kernel) ?_
          refine y_icmp_ne C 118 dX3_takes_103 (by decide) ⟨⟨by omega, by omega⟩, ⟨by omega, by omega⟩⟩ (fun c_81 => ?_) (fun c_81 => ?_)
          · refine y_iconst C dX3_takes_118 ?_
            refine hret _ _ _ _ dX3_takes_119 ⟨ta, bo, le, ri, pn, sg, rfl, ?_⟩
            show ((0 = 1 ∧ stp (ta, bo, le, ri, pn, sg) ch = some (ta, bo, le, ri, pn, sg)) ∨ (0 = 0 ∧ stp (ta, bo, le, ri, pn, sg) ch = none)) ∧ (Zok ta bo le ri pn sg)
            obtain rfl : sg = 1 := by omega
            have hst : ∀ z, stp (ta, bo, le, ri, pn, 1) ch = z → stp (ta, bo, le, ri, pn, 1) ch = z := fun _ e => e
            rw [stp1] at hst
            rw [stp1]
            first | (refine ⟨Or.inl ⟨by omega, ?_⟩, stp_ok hzok (c := ch) (by rw [stp1]; (repeat' split) <;> first | rfl | (exfalso; omega) | exact some6 (by omega))⟩; (repeat' split) <;> first | rfl | (exfalso; omega) | exact some6 (by omega)) | (refine ⟨Or.inr ⟨by omega, ?_⟩, by omega⟩; (repeat' split) <;> first | rfl | (exfalso; omega))
          · refine y_aload_n C 1 dX3_takes_106 rfl ?_
            refine y_iconst C dX3_takes_107 ?_
            refine y_mcalli C (m_X3_goesOn (l := l) (D := D) (cA := cA) (cB := cB) (pr := pr) (ta := ta) (bo := bo) (le := le) (ri := ri) (pn := pn) (sg := sg) (nx := 4) ) lk_X3_19 [0] [] ⟨rfl, rfl, by decide, by decide, by decide⟩ (jb := 0) rfl rfl dX3_takes_108 rfl rfl ⟨by exact Nat.le_of_ble_eq_true rfl, by exact Nat.le_of_ble_eq_true rfl, rfl, rfl, by exact Nat.le_of_ble_eq_true rfl, by exact Nat.le_of_ble_eq_true rfl, by exact Nat.le_of_ble_eq_true rfl⟩ (fun r_83 w_84 h_82 => ?_)
            obtain ⟨rfl, h_82⟩ := h_82
            refine ⟨[0], [cO pr 3 [.int (zI ta), .int (zI bo), .int (zI le), .int (zI ri), .int (zI pn), .int (zI 4)]], ⟨rfl, by decide⟩, ?_⟩
            have hgo := h_82
            refine y_if_eq C 118 dX3_takes_111 (by decide) ⟨by omega, by omega⟩ (fun c_85 => ?_) (fun c_85 => ?_)
            · refine y_iconst C dX3_takes_118 ?_
              refine hret _ _ _ _ dX3_takes_119 ⟨ta, bo, le, ri, pn, 4, rfl, ?_⟩
              show ((0 = 1 ∧ stp (ta, bo, le, ri, pn, sg) ch = some (ta, bo, le, ri, pn, 4)) ∨ (0 = 0 ∧ stp (ta, bo, le, ri, pn, sg) ch = none)) ∧ (Zok ta bo le ri pn 4)
              obtain rfl : sg = 1 := by omega
              have hst : ∀ z, stp (ta, bo, le, ri, pn, 1) ch = z → stp (ta, bo, le, ri, pn, 1) ch = z := fun _ e => e
              rw [stp1] at hst
              rw [stp1]
              first | (refine ⟨Or.inl ⟨by omega, ?_⟩, stp_ok hzok (c := ch) (by rw [stp1]; (repeat' split) <;> first | rfl | (exfalso; omega) | exact some6 (by omega))⟩; (repeat' split) <;> first | rfl | (exfalso; omega) | exact some6 (by omega)) | (refine ⟨Or.inr ⟨by omega, ?_⟩, by omega⟩; (repeat' split) <;> first | rfl | (exfalso; omega))
            · refine y_iconst C dX3_takes_114 ?_
              refine y_goto C 119 dX3_takes_115 (by decide) ?_
              refine hret _ _ _ _ dX3_takes_119 ⟨ta, bo, le, ri, pn, 4, rfl, ?_⟩
              show ((1 = 1 ∧ stp (ta, bo, le, ri, pn, sg) ch = some (ta, bo, le, ri, pn, 4)) ∨ (1 = 0 ∧ stp (ta, bo, le, ri, pn, sg) ch = none)) ∧ (Zok ta bo le ri pn 4)
              obtain rfl : sg = 1 := by omega
              have hst : ∀ z, stp (ta, bo, le, ri, pn, 1) ch = z → stp (ta, bo, le, ri, pn, 1) ch = z := fun _ e => e
              rw [stp1] at hst
              rw [stp1]
              first | (refine ⟨Or.inl ⟨by omega, ?_⟩, stp_ok hzok (c := ch) (by rw [stp1]; (repeat' split) <;> first | rfl | (exfalso; omega) | exact some6 (by omega))⟩; (repeat' split) <;> first | rfl | (exfalso; omega) | exact some6 (by omega)) | (refine ⟨Or.inr ⟨by omega, ?_⟩, by omega⟩; (repeat' split) <;> first | rfl | (exfalso; omega))
        · refine y_aload_n C 1 dX3_takes_92 rfl ?_
          refine y_iconst C dX3_takes_93 ?_
          refine y_mcalli C (m_X3_goesOn (l := l) (D := D) (cA := cA) (cB := cB) (pr := pr) (ta := ta) (bo := bo) (le := le) (ri := ri) (pn := pn) (sg := sg) (nx := 2) ) lk_X3_19 [0] [] ⟨rfl, rfl, by decide, by decide, by decide⟩ (jb := 0) rfl rfl dX3_takes_94 rfl rfl ⟨by exact Nat.le_of_ble_eq_true rfl, by exact Nat.le_of_ble_eq_true rfl, rfl, rfl, by exact Nat.le_of_ble_eq_true rfl, by exact Nat.le_of_ble_eq_true rfl, by exact Nat.le_of_ble_eq_true rfl⟩ (fun r_87 w_88 h_86 => ?_)
          obtain ⟨rfl, h_86⟩ := h_86
          refine ⟨[0], [cO pr 3 [.int (zI ta), .int (zI bo), .int (zI le), .int (zI ri), .int (zI pn), .int (zI 2)]], ⟨rfl, by decide⟩, ?_⟩
          have hgo := h_86
          refine y_goto C 119 dX3_takes_97 (by decide) ?_
          refine hret _ _ _ _ dX3_takes_119 ⟨ta, bo, le, ri, pn, 2, rfl, ?_⟩
          show ((r_87 = 1 ∧ stp (ta, bo, le, ri, pn, sg) ch = some (ta, bo, le, ri, pn, 2)) ∨ (r_87 = 0 ∧ stp (ta, bo, le, ri, pn, sg) ch = none)) ∧ (Zok ta bo le ri pn 2)
          obtain rfl : sg = 1 := by omega
          have hst : ∀ z, stp (ta, bo, le, ri, pn, 1) ch = z → stp (ta, bo, le, ri, pn, 1) ch = z := fun _ e => e
          rw [stp1] at hst
          rw [stp1]
          first | (refine ⟨Or.inl ⟨by omega, ?_⟩, stp_ok hzok (c := ch) (by rw [stp1]; (repeat' split) <;> first | rfl | (exfalso; omega) | exact some6 (by omega))⟩; (repeat' split) <;> first | rfl | (exfalso; omega) | exact some6 (by omega)) | (refine ⟨Or.inr ⟨by omega, ?_⟩, by omega⟩; (repeat' split) <;> first | rfl | (exfalso; omega))
      · refine y_tin C 120 2 dX3_takes_26 ⟨by omega, by omega⟩ ⟨by omega, by omega⟩ (by omega) rfl (by decide) ?_
        refine y_aload_n C 1 dX3_takes_120 rfl ?_
        refine y_iload_n C 0 dX3_takes_121 rfl ?_
        refine y_mcalli C (m_X3_takesBottom (l := l) (D := D) (cA := cA) (cB := cB) (pr := pr) (ta := ta) (bo := bo) (le := le) (ri := ri) (pn := pn) (sg := sg) (dg := (-4)) (by exact ⟨by omega, by omega⟩) (by first | assumption | omega | exact ⟨by omega, by omega⟩)) lk_X3_22 [0] [] ⟨rfl, rfl, by decide, by decide, by decide⟩ (jb := 0) rfl rfl dX3_takes_122 rfl rfl ⟨by exact Nat.le_of_ble_eq_true rfl, by exact Nat.le_of_ble_eq_true rfl, rfl, rfl, by exact Nat.le_of_ble_eq_true rfl, by exact Nat.le_of_ble_eq_true rfl, by exact Nat.le_of_ble_eq_true rfl⟩ (fun r_90 w_97 h_89 => ?_)
        obtain ⟨ta2_91, bo2_92, le2_93, ri2_94, pn2_95, sg2_96, rfl, h_89⟩ := h_89
        refine ⟨[0], [cO pr 3 [.int (zI ta2_91), .int (zI bo2_92), .int (zI le2_93), .int (zI ri2_94), .int (zI pn2_95), .int (zI sg2_96)]], ⟨rfl, by decide⟩, ?_⟩
        have hgo := h_89
        refine hret _ _ _ _ dX3_takes_125 ⟨ta2_91, bo2_92, le2_93, ri2_94, pn2_95, sg2_96, rfl, ?_⟩
        show ((r_90 = 1 ∧ stp (ta, bo, le, ri, pn, sg) ch = some (ta2_91, bo2_92, le2_93, ri2_94, pn2_95, sg2_96)) ∨ (r_90 = 0 ∧ stp (ta, bo, le, ri, pn, sg) ch = none)) ∧ (Zok ta2_91 bo2_92 le2_93 ri2_94 pn2_95 sg2_96)
        obtain rfl : sg = 2 := by omega
        rw [stp2]
        rcases hgo with hgo | hgo
        · exact ⟨Or.inl ⟨hgo.1, by (repeat' split) <;> first | rfl | (exfalso; omega) | exact some6 (by omega)⟩, stp_ok hzok (c := ch) (by rw [stp2]; (repeat' split) <;> first | rfl | (exfalso; omega) | exact some6 (by omega))⟩
        · exact ⟨Or.inr ⟨hgo.1, by (repeat' split) <;> first | rfl | (exfalso; omega)⟩, by omega⟩
      · refine y_tin C 126 3 dX3_takes_26 ⟨by omega, by omega⟩ ⟨by omega, by omega⟩ (by omega) rfl (by decide) ?_
        refine y_iload_n C 2 dX3_takes_126 rfl ?_
        refine y_bipush C dX3_takes_127 (by decide +kernel) ?_
        refine y_icmp_ne C 144 dX3_takes_129 (by decide) ⟨⟨by omega, by omega⟩, ⟨by omega, by omega⟩⟩ (fun c_98 => ?_) (fun c_98 => ?_)
        · refine y_iconst C dX3_takes_144 ?_
          refine hret _ _ _ _ dX3_takes_145 ⟨ta, bo, le, ri, pn, sg, rfl, ?_⟩
          show ((0 = 1 ∧ stp (ta, bo, le, ri, pn, sg) ch = some (ta, bo, le, ri, pn, sg)) ∨ (0 = 0 ∧ stp (ta, bo, le, ri, pn, sg) ch = none)) ∧ (Zok ta bo le ri pn sg)
          obtain rfl : sg = 3 := by omega
          have hst : ∀ z, stp (ta, bo, le, ri, pn, 3) ch = z → stp (ta, bo, le, ri, pn, 3) ch = z := fun _ e => e
          rw [stp3] at hst
          rw [stp3]
          first | (refine ⟨Or.inl ⟨by omega, ?_⟩, stp_ok hzok (c := ch) (by rw [stp3]; (repeat' split) <;> first | rfl | (exfalso; omega) | exact some6 (by omega))⟩; (repeat' split) <;> first | rfl | (exfalso; omega) | exact some6 (by omega)) | (refine ⟨Or.inr ⟨by omega, ?_⟩, by omega⟩; (repeat' split) <;> first | rfl | (exfalso; omega))
        · refine y_aload_n C 1 dX3_takes_132 rfl ?_
          refine y_iconst C dX3_takes_133 ?_
          refine y_mcalli C (m_X3_goesOn (l := l) (D := D) (cA := cA) (cB := cB) (pr := pr) (ta := ta) (bo := bo) (le := le) (ri := ri) (pn := pn) (sg := sg) (nx := 4) ) lk_X3_19 [0] [] ⟨rfl, rfl, by decide, by decide, by decide⟩ (jb := 0) rfl rfl dX3_takes_134 rfl rfl ⟨by exact Nat.le_of_ble_eq_true rfl, by exact Nat.le_of_ble_eq_true rfl, rfl, rfl, by exact Nat.le_of_ble_eq_true rfl, by exact Nat.le_of_ble_eq_true rfl, by exact Nat.le_of_ble_eq_true rfl⟩ (fun r_100 w_101 h_99 => ?_)
          obtain ⟨rfl, h_99⟩ := h_99
          refine ⟨[0], [cO pr 3 [.int (zI ta), .int (zI bo), .int (zI le), .int (zI ri), .int (zI pn), .int (zI 4)]], ⟨rfl, by decide⟩, ?_⟩
          have hgo := h_99
          refine y_if_eq C 144 dX3_takes_137 (by decide) ⟨by omega, by omega⟩ (fun c_102 => ?_) (fun c_102 => ?_)
          · refine y_iconst C dX3_takes_144 ?_
            refine hret _ _ _ _ dX3_takes_145 ⟨ta, bo, le, ri, pn, 4, rfl, ?_⟩
            show ((0 = 1 ∧ stp (ta, bo, le, ri, pn, sg) ch = some (ta, bo, le, ri, pn, 4)) ∨ (0 = 0 ∧ stp (ta, bo, le, ri, pn, sg) ch = none)) ∧ (Zok ta bo le ri pn 4)
            obtain rfl : sg = 3 := by omega
            have hst : ∀ z, stp (ta, bo, le, ri, pn, 3) ch = z → stp (ta, bo, le, ri, pn, 3) ch = z := fun _ e => e
            rw [stp3] at hst
            rw [stp3]
            first | (refine ⟨Or.inl ⟨by omega, ?_⟩, stp_ok hzok (c := ch) (by rw [stp3]; (repeat' split) <;> first | rfl | (exfalso; omega) | exact some6 (by omega))⟩; (repeat' split) <;> first | rfl | (exfalso; omega) | exact some6 (by omega)) | (refine ⟨Or.inr ⟨by omega, ?_⟩, by omega⟩; (repeat' split) <;> first | rfl | (exfalso; omega))
          · refine y_iconst C dX3_takes_140 ?_
            refine y_goto C 145 dX3_takes_141 (by decide) ?_
            refine hret _ _ _ _ dX3_takes_145 ⟨ta, bo, le, ri, pn, 4, rfl, ?_⟩
            show ((1 = 1 ∧ stp (ta, bo, le, ri, pn, sg) ch = some (ta, bo, le, ri, pn, 4)) ∨ (1 = 0 ∧ stp (ta, bo, le, ri, pn, sg) ch = none)) ∧ (Zok ta bo le ri pn 4)
            obtain rfl : sg = 3 := by omega
            have hst : ∀ z, stp (ta, bo, le, ri, pn, 3) ch = z → stp (ta, bo, le, ri, pn, 3) ch = z := fun _ e => e
            rw [stp3] at hst
            rw [stp3]
            first | (refine ⟨Or.inl ⟨by omega, ?_⟩, stp_ok hzok (c := ch) (by rw [stp3]; (repeat' split) <;> first | rfl | (exfalso; omega) | exact some6 (by omega))⟩; (repeat' split) <;> first | rfl | (exfalso; omega) | exact some6 (by omega)) | (refine ⟨Or.inr ⟨by omega, ?_⟩, by omega⟩; (repeat' split) <;> first | rfl | (exfalso; omega))
      · refine y_tin C 146 4 dX3_takes_26 ⟨by omega, by omega⟩ ⟨by omega, by omega⟩ (by omega) rfl (by decide) ?_
        refine y_iload_n C 0 dX3_takes_146 rfl ?_
        refine y_bipush C dX3_takes_147 (by decide +kernel) ?_
        refine y_icmp_eq C 164 dX3_takes_149 (by decide) ⟨⟨by omega, by omega⟩, ⟨by omega, by omega⟩⟩ (fun _ => ?_) (fun h => absurd h (by decide))
        refine y_iconst C dX3_takes_164 ?_
        refine hret _ _ _ _ dX3_takes_165 ⟨ta, bo, le, ri, pn, sg, rfl, ?_⟩
        show ((0 = 1 ∧ stp (ta, bo, le, ri, pn, sg) ch = some (ta, bo, le, ri, pn, sg)) ∨ (0 = 0 ∧ stp (ta, bo, le, ri, pn, sg) ch = none)) ∧ (Zok ta bo le ri pn sg)
        obtain rfl : sg = 4 := by omega
        have hst : ∀ z, stp (ta, bo, le, ri, pn, 4) ch = z → stp (ta, bo, le, ri, pn, 4) ch = z := fun _ e => e
        rw [stp4] at hst
        rw [stp4]
        first | (refine ⟨Or.inl ⟨by omega, ?_⟩, stp_ok hzok (c := ch) (by rw [stp4]; (repeat' split) <;> first | rfl | (exfalso; omega) | exact some6 (by omega))⟩; (repeat' split) <;> first | rfl | (exfalso; omega) | exact some6 (by omega)) | (refine ⟨Or.inr ⟨by omega, ?_⟩, by omega⟩; (repeat' split) <;> first | rfl | (exfalso; omega))
      · refine y_tin C 166 5 dX3_takes_26 ⟨by omega, by omega⟩ ⟨by omega, by omega⟩ (by omega) rfl (by decide) ?_
        refine y_aload_n C 1 dX3_takes_166 rfl ?_
        refine y_iload_n C 2 dX3_takes_167 rfl ?_
        refine y_iload_n C 0 dX3_takes_168 rfl ?_
        refine y_mcalli C (m_X3_takesBehindLeft (l := l) (D := D) (cA := cA) (cB := cB) (pr := pr) (ta := ta) (bo := bo) (le := le) (ri := ri) (pn := pn) (sg := sg) (ch := ch) (dg := (-4)) (by first | assumption | omega | exact ⟨by omega, by omega⟩) (by first | assumption | omega | exact ⟨by omega, by omega⟩) (by first | assumption | omega | exact ⟨by omega, by omega⟩) (by first | assumption | omega | exact ⟨by omega, by omega⟩)) lk_X3_28 [0] [] ⟨rfl, rfl, by decide, by decide, by decide⟩ (jb := 0) rfl rfl dX3_takes_169 rfl rfl ⟨by exact Nat.le_of_ble_eq_true rfl, by exact Nat.le_of_ble_eq_true rfl, rfl, rfl, by exact Nat.le_of_ble_eq_true rfl, by exact Nat.le_of_ble_eq_true rfl, by exact Nat.le_of_ble_eq_true rfl⟩ (fun r_105 w_112 h_104 => ?_)
        obtain ⟨ta2_106, bo2_107, le2_108, ri2_109, pn2_110, sg2_111, rfl, h_104⟩ := h_104
        refine ⟨[0], [cO pr 3 [.int (zI ta2_106), .int (zI bo2_107), .int (zI le2_108), .int (zI ri2_109), .int (zI pn2_110), .int (zI sg2_111)]], ⟨rfl, by decide⟩, ?_⟩
        have hgo := h_104
        refine hret _ _ _ _ dX3_takes_172 ⟨ta2_106, bo2_107, le2_108, ri2_109, pn2_110, sg2_111, rfl, ?_⟩
        show ((r_105 = 1 ∧ stp (ta, bo, le, ri, pn, sg) ch = some (ta2_106, bo2_107, le2_108, ri2_109, pn2_110, sg2_111)) ∨ (r_105 = 0 ∧ stp (ta, bo, le, ri, pn, sg) ch = none)) ∧ (Zok ta2_106 bo2_107 le2_108 ri2_109 pn2_110 sg2_111)
        obtain rfl : sg = 5 := by omega
        rcases hgo with ⟨h1, h2⟩ | ⟨h1, h2, h3⟩
        · exact ⟨Or.inl ⟨h1, h2⟩, stp_ok hzok h2⟩
        · exact ⟨Or.inr ⟨h1, h2⟩, by omega⟩
      · refine y_tin C 173 6 dX3_takes_26 ⟨by omega, by omega⟩ ⟨by omega, by omega⟩ (by omega) rfl (by decide) ?_
        refine y_iload_n C 0 dX3_takes_173 rfl ?_
        refine y_bipush C dX3_takes_174 (by decide +kernel) ?_
        refine y_icmp_eq C 191 dX3_takes_176 (by decide) ⟨⟨by omega, by omega⟩, ⟨by omega, by omega⟩⟩ (fun _ => ?_) (fun h => absurd h (by decide))
        refine y_iconst C dX3_takes_191 ?_
        refine hret _ _ _ _ dX3_takes_192 ⟨ta, bo, le, ri, pn, sg, rfl, ?_⟩
        show ((0 = 1 ∧ stp (ta, bo, le, ri, pn, sg) ch = some (ta, bo, le, ri, pn, sg)) ∨ (0 = 0 ∧ stp (ta, bo, le, ri, pn, sg) ch = none)) ∧ (Zok ta bo le ri pn sg)
        obtain rfl : sg = 6 := by omega
        have hst : ∀ z, stp (ta, bo, le, ri, pn, 6) ch = z → stp (ta, bo, le, ri, pn, 6) ch = z := fun _ e => e
        rw [stp6] at hst
        rw [stp6]
        first | (refine ⟨Or.inl ⟨by omega, ?_⟩, stp_ok hzok (c := ch) (by rw [stp6]; (repeat' split) <;> first | rfl | (exfalso; omega) | exact some6 (by omega))⟩; (repeat' split) <;> first | rfl | (exfalso; omega) | exact some6 (by omega)) | (refine ⟨Or.inr ⟨by omega, ?_⟩, by omega⟩; (repeat' split) <;> first | rfl | (exfalso; omega))
      · refine y_tin C 193 7 dX3_takes_26 ⟨by omega, by omega⟩ ⟨by omega, by omega⟩ (by omega) rfl (by decide) ?_
        refine y_aload_n C 1 dX3_takes_193 rfl ?_
        refine y_iload_n C 2 dX3_takes_194 rfl ?_
        refine y_iload_n C 0 dX3_takes_195 rfl ?_
        refine y_mcalli C (m_X3_takesBehindRight (l := l) (D := D) (cA := cA) (cB := cB) (pr := pr) (ta := ta) (bo := bo) (le := le) (ri := ri) (pn := pn) (sg := sg) (ch := ch) (dg := (-4)) (by first | assumption | omega | exact ⟨by omega, by omega⟩) (by first | assumption | omega | exact ⟨by omega, by omega⟩) (by first | assumption | omega | exact ⟨by omega, by omega⟩) (by first | assumption | omega | exact ⟨by omega, by omega⟩)) lk_X3_35 [0] [] ⟨rfl, rfl, by decide, by decide, by decide⟩ (jb := 0) rfl rfl dX3_takes_196 rfl rfl ⟨by exact Nat.le_of_ble_eq_true rfl, by exact Nat.le_of_ble_eq_true rfl, rfl, rfl, by exact Nat.le_of_ble_eq_true rfl, by exact Nat.le_of_ble_eq_true rfl, by exact Nat.le_of_ble_eq_true rfl⟩ (fun r_115 w_122 h_114 => ?_)
        obtain ⟨ta2_116, bo2_117, le2_118, ri2_119, pn2_120, sg2_121, rfl, h_114⟩ := h_114
        refine ⟨[0], [cO pr 3 [.int (zI ta2_116), .int (zI bo2_117), .int (zI le2_118), .int (zI ri2_119), .int (zI pn2_120), .int (zI sg2_121)]], ⟨rfl, by decide⟩, ?_⟩
        have hgo := h_114
        refine hret _ _ _ _ dX3_takes_199 ⟨ta2_116, bo2_117, le2_118, ri2_119, pn2_120, sg2_121, rfl, ?_⟩
        show ((r_115 = 1 ∧ stp (ta, bo, le, ri, pn, sg) ch = some (ta2_116, bo2_117, le2_118, ri2_119, pn2_120, sg2_121)) ∨ (r_115 = 0 ∧ stp (ta, bo, le, ri, pn, sg) ch = none)) ∧ (Zok ta2_116 bo2_117 le2_118 ri2_119 pn2_120 sg2_121)
        obtain rfl : sg = 7 := by omega
        rcases hgo with ⟨h1, h2⟩ | ⟨h1, h2, h3⟩
        · exact ⟨Or.inl ⟨h1, h2⟩, stp_ok hzok h2⟩
        · exact ⟨Or.inr ⟨h1, h2⟩, by omega⟩
      · refine y_tin C 200 8 dX3_takes_26 ⟨by omega, by omega⟩ ⟨by omega, by omega⟩ (by omega) rfl (by decide) ?_
        refine y_aload_n C 1 dX3_takes_200 rfl ?_
        refine y_iload_n C 0 dX3_takes_201 rfl ?_
        refine y_mcalli C (m_X3_takesPlane (l := l) (D := D) (cA := cA) (cB := cB) (pr := pr) (ta := ta) (bo := bo) (le := le) (ri := ri) (pn := pn) (sg := sg) (dg := (-4)) (by exact ⟨by omega, by omega⟩)) lk_X3_38 [0] [] ⟨rfl, rfl, by decide, by decide, by decide⟩ (jb := 0) rfl rfl dX3_takes_202 rfl rfl ⟨by exact Nat.le_of_ble_eq_true rfl, by exact Nat.le_of_ble_eq_true rfl, rfl, rfl, by exact Nat.le_of_ble_eq_true rfl, by exact Nat.le_of_ble_eq_true rfl, by exact Nat.le_of_ble_eq_true rfl⟩ (fun r_124 w_131 h_123 => ?_)
        obtain ⟨ta2_125, bo2_126, le2_127, ri2_128, pn2_129, sg2_130, rfl, h_123⟩ := h_123
        refine ⟨[0], [cO pr 3 [.int (zI ta2_125), .int (zI bo2_126), .int (zI le2_127), .int (zI ri2_128), .int (zI pn2_129), .int (zI sg2_130)]], ⟨rfl, by decide⟩, ?_⟩
        have hgo := h_123
        refine hret _ _ _ _ dX3_takes_205 ⟨ta2_125, bo2_126, le2_127, ri2_128, pn2_129, sg2_130, rfl, ?_⟩
        show ((r_124 = 1 ∧ stp (ta, bo, le, ri, pn, sg) ch = some (ta2_125, bo2_126, le2_127, ri2_128, pn2_129, sg2_130)) ∨ (r_124 = 0 ∧ stp (ta, bo, le, ri, pn, sg) ch = none)) ∧ (Zok ta2_125 bo2_126 le2_127 ri2_128 pn2_129 sg2_130)
        obtain rfl : sg = 8 := by omega
        rw [stp8]
        rcases hgo with hgo | hgo
        · exact ⟨Or.inl ⟨hgo.1, by (repeat' split) <;> first | rfl | (exfalso; omega) | exact some6 (by omega)⟩, stp_ok hzok (c := ch) (by rw [stp8]; (repeat' split) <;> first | rfl | (exfalso; omega) | exact some6 (by omega))⟩
        · exact ⟨Or.inr ⟨hgo.1, by (repeat' split) <;> first | rfl | (exfalso; omega)⟩, by omega⟩
      · refine y_tin C 206 9 dX3_takes_26 ⟨by omega, by omega⟩ ⟨by omega, by omega⟩ (by omega) rfl (by decide) ?_
        refine y_iload_n C 2 dX3_takes_206 rfl ?_
        refine y_bipush C dX3_takes_207 (by decide +kernel) ?_
        refine y_icmp_ne C 224 dX3_takes_209 (by decide) ⟨⟨by omega, by omega⟩, ⟨by omega, by omega⟩⟩ (fun c_132 => ?_) (fun c_132 => ?_)
        · refine y_iconst C dX3_takes_224 ?_
          refine hret _ _ _ _ dX3_takes_225 ⟨ta, bo, le, ri, pn, sg, rfl, ?_⟩
          show ((0 = 1 ∧ stp (ta, bo, le, ri, pn, sg) ch = some (ta, bo, le, ri, pn, sg)) ∨ (0 = 0 ∧ stp (ta, bo, le, ri, pn, sg) ch = none)) ∧ (Zok ta bo le ri pn sg)
          obtain rfl : sg = 9 := by omega
          have hst : ∀ z, stp (ta, bo, le, ri, pn, 9) ch = z → stp (ta, bo, le, ri, pn, 9) ch = z := fun _ e => e
          rw [stp9] at hst
          rw [stp9]
          first | (refine ⟨Or.inl ⟨by omega, ?_⟩, stp_ok hzok (c := ch) (by rw [stp9]; (repeat' split) <;> first | rfl | (exfalso; omega) | exact some6 (by omega))⟩; (repeat' split) <;> first | rfl | (exfalso; omega) | exact some6 (by omega)) | (refine ⟨Or.inr ⟨by omega, ?_⟩, by omega⟩; (repeat' split) <;> first | rfl | (exfalso; omega))
        · refine y_aload_n C 1 dX3_takes_212 rfl ?_
          refine y_iconst C dX3_takes_213 ?_
          refine y_mcalli C (m_X3_goesOn (l := l) (D := D) (cA := cA) (cB := cB) (pr := pr) (ta := ta) (bo := bo) (le := le) (ri := ri) (pn := pn) (sg := sg) (nx := 0) ) lk_X3_19 [0] [] ⟨rfl, rfl, by decide, by decide, by decide⟩ (jb := 0) rfl rfl dX3_takes_214 rfl rfl ⟨by exact Nat.le_of_ble_eq_true rfl, by exact Nat.le_of_ble_eq_true rfl, rfl, rfl, by exact Nat.le_of_ble_eq_true rfl, by exact Nat.le_of_ble_eq_true rfl, by exact Nat.le_of_ble_eq_true rfl⟩ (fun r_134 w_135 h_133 => ?_)
          obtain ⟨rfl, h_133⟩ := h_133
          refine ⟨[0], [cO pr 3 [.int (zI ta), .int (zI bo), .int (zI le), .int (zI ri), .int (zI pn), .int (zI 0)]], ⟨rfl, by decide⟩, ?_⟩
          have hgo := h_133
          refine y_if_eq C 224 dX3_takes_217 (by decide) ⟨by omega, by omega⟩ (fun c_136 => ?_) (fun c_136 => ?_)
          · refine y_iconst C dX3_takes_224 ?_
            refine hret _ _ _ _ dX3_takes_225 ⟨ta, bo, le, ri, pn, 0, rfl, ?_⟩
            show ((0 = 1 ∧ stp (ta, bo, le, ri, pn, sg) ch = some (ta, bo, le, ri, pn, 0)) ∨ (0 = 0 ∧ stp (ta, bo, le, ri, pn, sg) ch = none)) ∧ (Zok ta bo le ri pn 0)
            obtain rfl : sg = 9 := by omega
            have hst : ∀ z, stp (ta, bo, le, ri, pn, 9) ch = z → stp (ta, bo, le, ri, pn, 9) ch = z := fun _ e => e
            rw [stp9] at hst
            rw [stp9]
            first | (refine ⟨Or.inl ⟨by omega, ?_⟩, stp_ok hzok (c := ch) (by rw [stp9]; (repeat' split) <;> first | rfl | (exfalso; omega) | exact some6 (by omega))⟩; (repeat' split) <;> first | rfl | (exfalso; omega) | exact some6 (by omega)) | (refine ⟨Or.inr ⟨by omega, ?_⟩, by omega⟩; (repeat' split) <;> first | rfl | (exfalso; omega))
          · refine y_iconst C dX3_takes_220 ?_
            refine y_goto C 225 dX3_takes_221 (by decide) ?_
            refine hret _ _ _ _ dX3_takes_225 ⟨ta, bo, le, ri, pn, 0, rfl, ?_⟩
            show ((1 = 1 ∧ stp (ta, bo, le, ri, pn, sg) ch = some (ta, bo, le, ri, pn, 0)) ∨ (1 = 0 ∧ stp (ta, bo, le, ri, pn, sg) ch = none)) ∧ (Zok ta bo le ri pn 0)
            obtain rfl : sg = 9 := by omega
            have hst : ∀ z, stp (ta, bo, le, ri, pn, 9) ch = z → stp (ta, bo, le, ri, pn, 9) ch = z := fun _ e => e
            rw [stp9] at hst
            rw [stp9]
            first | (refine ⟨Or.inl ⟨by omega, ?_⟩, stp_ok hzok (c := ch) (by rw [stp9]; (repeat' split) <;> first | rfl | (exfalso; omega) | exact some6 (by omega))⟩; (repeat' split) <;> first | rfl | (exfalso; omega) | exact some6 (by omega)) | (refine ⟨Or.inr ⟨by omega, ?_⟩, by omega⟩; (repeat' split) <;> first | rfl | (exfalso; omega))
    · refine y_iload_n C 1 dX3_takes_12 rfl ?_
      refine y_bipush C dX3_takes_13 (by decide +kernel) ?_
      refine y_isub C dX3_takes_15 ?_
      refine y_goto C 21 dX3_takes_16 (by decide) ?_
      refine y_istore_n C [(2, .int (zI (ch - 48))), (0, .ref pr), (1, .int (zI ch))] dX3_takes_21 (by decide) rfl ?_
      have hdg : ((ch - 48) = -4 ∧ ¬ (48 ≤ ch ∧ ch ≤ 57)) ∨ ((ch - 48) = ch - 48 ∧ 48 ≤ ch ∧ ch ≤ 57) := by omega
      refine y_aload_n C 1 dX3_takes_22 rfl ?_
      refine y_get C fg_X3_11 0 dX3_takes_23 rfl rfl ?_
      rcases (show sg = 0 ∨ sg = 1 ∨ sg = 2 ∨ sg = 3 ∨ sg = 4 ∨ sg = 5 ∨ sg = 6 ∨ sg = 7 ∨ sg = 8 ∨ sg = 9 from by omega) with s_137 | s_137 | s_137 | s_137 | s_137 | s_137 | s_137 | s_137 | s_137 | s_137
      · refine y_tin C 80 0 dX3_takes_26 ⟨by omega, by omega⟩ ⟨by omega, by omega⟩ (by omega) rfl (by decide) ?_
        refine y_aload_n C 1 dX3_takes_80 rfl ?_
        refine y_iload_n C 0 dX3_takes_81 rfl ?_
        refine y_mcalli C (m_X3_takesTop (l := l) (D := D) (cA := cA) (cB := cB) (pr := pr) (ta := ta) (bo := bo) (le := le) (ri := ri) (pn := pn) (sg := sg) (dg := ch - 48) (by exact ⟨by omega, by omega⟩)) lk_X3_15 [0] [] ⟨rfl, rfl, by decide, by decide, by decide⟩ (jb := 0) rfl rfl dX3_takes_82 rfl rfl ⟨by exact Nat.le_of_ble_eq_true rfl, by exact Nat.le_of_ble_eq_true rfl, rfl, rfl, by exact Nat.le_of_ble_eq_true rfl, by exact Nat.le_of_ble_eq_true rfl, by exact Nat.le_of_ble_eq_true rfl⟩ (fun r_139 w_146 h_138 => ?_)
        obtain ⟨ta2_140, bo2_141, le2_142, ri2_143, pn2_144, sg2_145, rfl, h_138⟩ := h_138
        refine ⟨[0], [cO pr 3 [.int (zI ta2_140), .int (zI bo2_141), .int (zI le2_142), .int (zI ri2_143), .int (zI pn2_144), .int (zI sg2_145)]], ⟨rfl, by decide⟩, ?_⟩
        have hgo := h_138
        refine hret _ _ _ _ dX3_takes_85 ⟨ta2_140, bo2_141, le2_142, ri2_143, pn2_144, sg2_145, rfl, ?_⟩
        show ((r_139 = 1 ∧ stp (ta, bo, le, ri, pn, sg) ch = some (ta2_140, bo2_141, le2_142, ri2_143, pn2_144, sg2_145)) ∨ (r_139 = 0 ∧ stp (ta, bo, le, ri, pn, sg) ch = none)) ∧ (Zok ta2_140 bo2_141 le2_142 ri2_143 pn2_144 sg2_145)
        obtain rfl : sg = 0 := by omega
        rw [stp0]
        rcases hgo with hgo | hgo
        · exact ⟨Or.inl ⟨hgo.1, by (repeat' split) <;> first | rfl | (exfalso; omega) | exact some6 (by omega)⟩, stp_ok hzok (c := ch) (by rw [stp0]; (repeat' split) <;> first | rfl | (exfalso; omega) | exact some6 (by omega))⟩
        · exact ⟨Or.inr ⟨hgo.1, by (repeat' split) <;> first | rfl | (exfalso; omega)⟩, by omega⟩
      · refine y_tin C 86 1 dX3_takes_26 ⟨by omega, by omega⟩ ⟨by omega, by omega⟩ (by omega) rfl (by decide) ?_
        refine y_iload_n C 2 dX3_takes_86 rfl ?_
        refine y_bipush C dX3_takes_87 (by decide +kernel) ?_
        refine y_icmp_ne C 100 dX3_takes_89 (by decide) ⟨⟨by omega, by omega⟩, ⟨by omega, by omega⟩⟩ (fun c_147 => ?_) (fun c_147 => ?_)
        · refine y_iload_n C 2 dX3_takes_100 rfl ?_
          refine y_bipush C dX3_takes_101 (by decide +kernel) ?_
          refine y_icmp_ne C 118 dX3_takes_103 (by decide) ⟨⟨by omega, by omega⟩, ⟨by omega, by omega⟩⟩ (fun c_148 => ?_) (fun c_148 => ?_)
          · refine y_iconst C dX3_takes_118 ?_
            refine hret _ _ _ _ dX3_takes_119 ⟨ta, bo, le, ri, pn, sg, rfl, ?_⟩
            show ((0 = 1 ∧ stp (ta, bo, le, ri, pn, sg) ch = some (ta, bo, le, ri, pn, sg)) ∨ (0 = 0 ∧ stp (ta, bo, le, ri, pn, sg) ch = none)) ∧ (Zok ta bo le ri pn sg)
            obtain rfl : sg = 1 := by omega
            have hst : ∀ z, stp (ta, bo, le, ri, pn, 1) ch = z → stp (ta, bo, le, ri, pn, 1) ch = z := fun _ e => e
            rw [stp1] at hst
            rw [stp1]
            first | (refine ⟨Or.inl ⟨by omega, ?_⟩, stp_ok hzok (c := ch) (by rw [stp1]; (repeat' split) <;> first | rfl | (exfalso; omega) | exact some6 (by omega))⟩; (repeat' split) <;> first | rfl | (exfalso; omega) | exact some6 (by omega)) | (refine ⟨Or.inr ⟨by omega, ?_⟩, by omega⟩; (repeat' split) <;> first | rfl | (exfalso; omega))
          · refine y_aload_n C 1 dX3_takes_106 rfl ?_
            refine y_iconst C dX3_takes_107 ?_
            refine y_mcalli C (m_X3_goesOn (l := l) (D := D) (cA := cA) (cB := cB) (pr := pr) (ta := ta) (bo := bo) (le := le) (ri := ri) (pn := pn) (sg := sg) (nx := 4) ) lk_X3_19 [0] [] ⟨rfl, rfl, by decide, by decide, by decide⟩ (jb := 0) rfl rfl dX3_takes_108 rfl rfl ⟨by exact Nat.le_of_ble_eq_true rfl, by exact Nat.le_of_ble_eq_true rfl, rfl, rfl, by exact Nat.le_of_ble_eq_true rfl, by exact Nat.le_of_ble_eq_true rfl, by exact Nat.le_of_ble_eq_true rfl⟩ (fun r_150 w_151 h_149 => ?_)
            obtain ⟨rfl, h_149⟩ := h_149
            refine ⟨[0], [cO pr 3 [.int (zI ta), .int (zI bo), .int (zI le), .int (zI ri), .int (zI pn), .int (zI 4)]], ⟨rfl, by decide⟩, ?_⟩
            have hgo := h_149
            refine y_if_eq C 118 dX3_takes_111 (by decide) ⟨by omega, by omega⟩ (fun c_152 => ?_) (fun c_152 => ?_)
            · refine y_iconst C dX3_takes_118 ?_
              refine hret _ _ _ _ dX3_takes_119 ⟨ta, bo, le, ri, pn, 4, rfl, ?_⟩
              show ((0 = 1 ∧ stp (ta, bo, le, ri, pn, sg) ch = some (ta, bo, le, ri, pn, 4)) ∨ (0 = 0 ∧ stp (ta, bo, le, ri, pn, sg) ch = none)) ∧ (Zok ta bo le ri pn 4)
              obtain rfl : sg = 1 := by omega
              have hst : ∀ z, stp (ta, bo, le, ri, pn, 1) ch = z → stp (ta, bo, le, ri, pn, 1) ch = z := fun _ e => e
              rw [stp1] at hst
              rw [stp1]
              first | (refine ⟨Or.inl ⟨by omega, ?_⟩, stp_ok hzok (c := ch) (by rw [stp1]; (repeat' split) <;> first | rfl | (exfalso; omega) | exact some6 (by omega))⟩; (repeat' split) <;> first | rfl | (exfalso; omega) | exact some6 (by omega)) | (refine ⟨Or.inr ⟨by omega, ?_⟩, by omega⟩; (repeat' split) <;> first | rfl | (exfalso; omega))
            · refine y_iconst C dX3_takes_114 ?_
              refine y_goto C 119 dX3_takes_115 (by decide) ?_
              refine hret _ _ _ _ dX3_takes_119 ⟨ta, bo, le, ri, pn, 4, rfl, ?_⟩
              show ((1 = 1 ∧ stp (ta, bo, le, ri, pn, sg) ch = some (ta, bo, le, ri, pn, 4)) ∨ (1 = 0 ∧ stp (ta, bo, le, ri, pn, sg) ch = none)) ∧ (Zok ta bo le ri pn 4)
              obtain rfl : sg = 1 := by omega
              have hst : ∀ z, stp (ta, bo, le, ri, pn, 1) ch = z → stp (ta, bo, le, ri, pn, 1) ch = z := fun _ e => e
              rw [stp1] at hst
              rw [stp1]
              first | (refine ⟨Or.inl ⟨by omega, ?_⟩, stp_ok hzok (c := ch) (by rw [stp1]; (repeat' split) <;> first | rfl | (exfalso; omega) | exact some6 (by omega))⟩; (repeat' split) <;> first | rfl | (exfalso; omega) | exact some6 (by omega)) | (refine ⟨Or.inr ⟨by omega, ?_⟩, by omega⟩; (repeat' split) <;> first | rfl | (exfalso; omega))
        · refine y_aload_n C 1 dX3_takes_92 rfl ?_
          refine y_iconst C dX3_takes_93 ?_
          refine y_mcalli C (m_X3_goesOn (l := l) (D := D) (cA := cA) (cB := cB) (pr := pr) (ta := ta) (bo := bo) (le := le) (ri := ri) (pn := pn) (sg := sg) (nx := 2) ) lk_X3_19 [0] [] ⟨rfl, rfl, by decide, by decide, by decide⟩ (jb := 0) rfl rfl dX3_takes_94 rfl rfl ⟨by exact Nat.le_of_ble_eq_true rfl, by exact Nat.le_of_ble_eq_true rfl, rfl, rfl, by exact Nat.le_of_ble_eq_true rfl, by exact Nat.le_of_ble_eq_true rfl, by exact Nat.le_of_ble_eq_true rfl⟩ (fun r_154 w_155 h_153 => ?_)
          obtain ⟨rfl, h_153⟩ := h_153
          refine ⟨[0], [cO pr 3 [.int (zI ta), .int (zI bo), .int (zI le), .int (zI ri), .int (zI pn), .int (zI 2)]], ⟨rfl, by decide⟩, ?_⟩
          have hgo := h_153
          refine y_goto C 119 dX3_takes_97 (by decide) ?_
          refine hret _ _ _ _ dX3_takes_119 ⟨ta, bo, le, ri, pn, 2, rfl, ?_⟩
          show ((r_154 = 1 ∧ stp (ta, bo, le, ri, pn, sg) ch = some (ta, bo, le, ri, pn, 2)) ∨ (r_154 = 0 ∧ stp (ta, bo, le, ri, pn, sg) ch = none)) ∧ (Zok ta bo le ri pn 2)
          obtain rfl : sg = 1 := by omega
          have hst : ∀ z, stp (ta, bo, le, ri, pn, 1) ch = z → stp (ta, bo, le, ri, pn, 1) ch = z := fun _ e => e
          rw [stp1] at hst
          rw [stp1]
          first | (refine ⟨Or.inl ⟨by omega, ?_⟩, stp_ok hzok (c := ch) (by rw [stp1]; (repeat' split) <;> first | rfl | (exfalso; omega) | exact some6 (by omega))⟩; (repeat' split) <;> first | rfl | (exfalso; omega) | exact some6 (by omega)) | (refine ⟨Or.inr ⟨by omega, ?_⟩, by omega⟩; (repeat' split) <;> first | rfl | (exfalso; omega))
      · refine y_tin C 120 2 dX3_takes_26 ⟨by omega, by omega⟩ ⟨by omega, by omega⟩ (by omega) rfl (by decide) ?_
        refine y_aload_n C 1 dX3_takes_120 rfl ?_
        refine y_iload_n C 0 dX3_takes_121 rfl ?_
        refine y_mcalli C (m_X3_takesBottom (l := l) (D := D) (cA := cA) (cB := cB) (pr := pr) (ta := ta) (bo := bo) (le := le) (ri := ri) (pn := pn) (sg := sg) (dg := ch - 48) (by exact ⟨by omega, by omega⟩) (by first | assumption | omega | exact ⟨by omega, by omega⟩)) lk_X3_22 [0] [] ⟨rfl, rfl, by decide, by decide, by decide⟩ (jb := 0) rfl rfl dX3_takes_122 rfl rfl ⟨by exact Nat.le_of_ble_eq_true rfl, by exact Nat.le_of_ble_eq_true rfl, rfl, rfl, by exact Nat.le_of_ble_eq_true rfl, by exact Nat.le_of_ble_eq_true rfl, by exact Nat.le_of_ble_eq_true rfl⟩ (fun r_157 w_164 h_156 => ?_)
        obtain ⟨ta2_158, bo2_159, le2_160, ri2_161, pn2_162, sg2_163, rfl, h_156⟩ := h_156
        refine ⟨[0], [cO pr 3 [.int (zI ta2_158), .int (zI bo2_159), .int (zI le2_160), .int (zI ri2_161), .int (zI pn2_162), .int (zI sg2_163)]], ⟨rfl, by decide⟩, ?_⟩
        have hgo := h_156
        refine hret _ _ _ _ dX3_takes_125 ⟨ta2_158, bo2_159, le2_160, ri2_161, pn2_162, sg2_163, rfl, ?_⟩
        show ((r_157 = 1 ∧ stp (ta, bo, le, ri, pn, sg) ch = some (ta2_158, bo2_159, le2_160, ri2_161, pn2_162, sg2_163)) ∨ (r_157 = 0 ∧ stp (ta, bo, le, ri, pn, sg) ch = none)) ∧ (Zok ta2_158 bo2_159 le2_160 ri2_161 pn2_162 sg2_163)
        obtain rfl : sg = 2 := by omega
        rw [stp2]
        rcases hgo with hgo | hgo
        · exact ⟨Or.inl ⟨hgo.1, by (repeat' split) <;> first | rfl | (exfalso; omega) | exact some6 (by omega)⟩, stp_ok hzok (c := ch) (by rw [stp2]; (repeat' split) <;> first | rfl | (exfalso; omega) | exact some6 (by omega))⟩
        · exact ⟨Or.inr ⟨hgo.1, by (repeat' split) <;> first | rfl | (exfalso; omega)⟩, by omega⟩
      · refine y_tin C 126 3 dX3_takes_26 ⟨by omega, by omega⟩ ⟨by omega, by omega⟩ (by omega) rfl (by decide) ?_
        refine y_iload_n C 2 dX3_takes_126 rfl ?_
        refine y_bipush C dX3_takes_127 (by decide +kernel) ?_
        refine y_icmp_ne C 144 dX3_takes_129 (by decide) ⟨⟨by omega, by omega⟩, ⟨by omega, by omega⟩⟩ (fun c_165 => ?_) (fun c_165 => ?_)
        · refine y_iconst C dX3_takes_144 ?_
          refine hret _ _ _ _ dX3_takes_145 ⟨ta, bo, le, ri, pn, sg, rfl, ?_⟩
          show ((0 = 1 ∧ stp (ta, bo, le, ri, pn, sg) ch = some (ta, bo, le, ri, pn, sg)) ∨ (0 = 0 ∧ stp (ta, bo, le, ri, pn, sg) ch = none)) ∧ (Zok ta bo le ri pn sg)
          obtain rfl : sg = 3 := by omega
          have hst : ∀ z, stp (ta, bo, le, ri, pn, 3) ch = z → stp (ta, bo, le, ri, pn, 3) ch = z := fun _ e => e
          rw [stp3] at hst
          rw [stp3]
          first | (refine ⟨Or.inl ⟨by omega, ?_⟩, stp_ok hzok (c := ch) (by rw [stp3]; (repeat' split) <;> first | rfl | (exfalso; omega) | exact some6 (by omega))⟩; (repeat' split) <;> first | rfl | (exfalso; omega) | exact some6 (by omega)) | (refine ⟨Or.inr ⟨by omega, ?_⟩, by omega⟩; (repeat' split) <;> first | rfl | (exfalso; omega))
        · refine y_aload_n C 1 dX3_takes_132 rfl ?_
          refine y_iconst C dX3_takes_133 ?_
          refine y_mcalli C (m_X3_goesOn (l := l) (D := D) (cA := cA) (cB := cB) (pr := pr) (ta := ta) (bo := bo) (le := le) (ri := ri) (pn := pn) (sg := sg) (nx := 4) ) lk_X3_19 [0] [] ⟨rfl, rfl, by decide, by decide, by decide⟩ (jb := 0) rfl rfl dX3_takes_134 rfl rfl ⟨by exact Nat.le_of_ble_eq_true rfl, by exact Nat.le_of_ble_eq_true rfl, rfl, rfl, by exact Nat.le_of_ble_eq_true rfl, by exact Nat.le_of_ble_eq_true rfl, by exact Nat.le_of_ble_eq_true rfl⟩ (fun r_167 w_168 h_166 => ?_)
          obtain ⟨rfl, h_166⟩ := h_166
          refine ⟨[0], [cO pr 3 [.int (zI ta), .int (zI bo), .int (zI le), .int (zI ri), .int (zI pn), .int (zI 4)]], ⟨rfl, by decide⟩, ?_⟩
          have hgo := h_166
          refine y_if_eq C 144 dX3_takes_137 (by decide) ⟨by omega, by omega⟩ (fun c_169 => ?_) (fun c_169 => ?_)
          · refine y_iconst C dX3_takes_144 ?_
            refine hret _ _ _ _ dX3_takes_145 ⟨ta, bo, le, ri, pn, 4, rfl, ?_⟩
            show ((0 = 1 ∧ stp (ta, bo, le, ri, pn, sg) ch = some (ta, bo, le, ri, pn, 4)) ∨ (0 = 0 ∧ stp (ta, bo, le, ri, pn, sg) ch = none)) ∧ (Zok ta bo le ri pn 4)
            obtain rfl : sg = 3 := by omega
            have hst : ∀ z, stp (ta, bo, le, ri, pn, 3) ch = z → stp (ta, bo, le, ri, pn, 3) ch = z := fun _ e => e
            rw [stp3] at hst
            rw [stp3]
            first | (refine ⟨Or.inl ⟨by omega, ?_⟩, stp_ok hzok (c := ch) (by rw [stp3]; (repeat' split) <;> first | rfl | (exfalso; omega) | exact some6 (by omega))⟩; (repeat' split) <;> first | rfl | (exfalso; omega) | exact some6 (by omega)) | (refine ⟨Or.inr ⟨by omega, ?_⟩, by omega⟩; (repeat' split) <;> first | rfl | (exfalso; omega))
          · refine y_iconst C dX3_takes_140 ?_
            refine y_goto C 145 dX3_takes_141 (by decide) ?_
            refine hret _ _ _ _ dX3_takes_145 ⟨ta, bo, le, ri, pn, 4, rfl, ?_⟩
            show ((1 = 1 ∧ stp (ta, bo, le, ri, pn, sg) ch = some (ta, bo, le, ri, pn, 4)) ∨ (1 = 0 ∧ stp (ta, bo, le, ri, pn, sg) ch = none)) ∧ (Zok ta bo le ri pn 4)
            obtain rfl : sg = 3 := by omega
            have hst : ∀ z, stp (ta, bo, le, ri, pn, 3) ch = z → stp (ta, bo, le, ri, pn, 3) ch = z := fun _ e => e
            rw [stp3] at hst
            rw [stp3]
            first | (refine ⟨Or.inl ⟨by omega, ?_⟩, stp_ok hzok (c := ch) (by rw [stp3]; (repeat' split) <;> first | rfl | (exfalso; omega) | exact some6 (by omega))⟩; (repeat' split) <;> first | rfl | (exfalso; omega) | exact some6 (by omega)) | (refine ⟨Or.inr ⟨by omega, ?_⟩, by omega⟩; (repeat' split) <;> first | rfl | (exfalso; omega))
      · refine y_tin C 146 4 dX3_takes_26 ⟨by omega, by omega⟩ ⟨by omega, by omega⟩ (by omega) rfl (by decide) ?_
        refine y_iload_n C 0 dX3_takes_146 rfl ?_
        refine y_bipush C dX3_takes_147 (by decide +kernel) ?_
        refine y_icmp_eq C 164 dX3_takes_149 (by decide) ⟨⟨by omega, by omega⟩, ⟨by omega, by omega⟩⟩ (fun c_170 => ?_) (fun c_170 => ?_)
        · refine y_iconst C dX3_takes_164 ?_
          refine hret _ _ _ _ dX3_takes_165 ⟨ta, bo, le, ri, pn, sg, rfl, ?_⟩
          show ((0 = 1 ∧ stp (ta, bo, le, ri, pn, sg) ch = some (ta, bo, le, ri, pn, sg)) ∨ (0 = 0 ∧ stp (ta, bo, le, ri, pn, sg) ch = none)) ∧ (Zok ta bo le ri pn sg)
          obtain rfl : sg = 4 := by omega
          have hst : ∀ z, stp (ta, bo, le, ri, pn, 4) ch = z → stp (ta, bo, le, ri, pn, 4) ch = z := fun _ e => e
          rw [stp4] at hst
          rw [stp4]
          first | (refine ⟨Or.inl ⟨by omega, ?_⟩, stp_ok hzok (c := ch) (by rw [stp4]; (repeat' split) <;> first | rfl | (exfalso; omega) | exact some6 (by omega))⟩; (repeat' split) <;> first | rfl | (exfalso; omega) | exact some6 (by omega)) | (refine ⟨Or.inr ⟨by omega, ?_⟩, by omega⟩; (repeat' split) <;> first | rfl | (exfalso; omega))
        · refine y_aload_n C 1 dX3_takes_152 rfl ?_
          refine y_iload_n C 0 dX3_takes_153 rfl ?_
          refine y_mcalli C (m_X3_takesLeft (l := l) (D := D) (cA := cA) (cB := cB) (pr := pr) (ta := ta) (bo := bo) (le := le) (ri := ri) (pn := pn) (sg := sg) (dg := ch - 48) (by exact ⟨by omega, by omega⟩)) lk_X3_25 [0] [] ⟨rfl, rfl, by decide, by decide, by decide⟩ (jb := 0) rfl rfl dX3_takes_154 rfl rfl ⟨by exact Nat.le_of_ble_eq_true rfl, by exact Nat.le_of_ble_eq_true rfl, rfl, rfl, by exact Nat.le_of_ble_eq_true rfl, by exact Nat.le_of_ble_eq_true rfl, by exact Nat.le_of_ble_eq_true rfl⟩ (fun r_172 w_179 h_171 => ?_)
          obtain ⟨ta2_173, bo2_174, le2_175, ri2_176, pn2_177, sg2_178, rfl, h_171⟩ := h_171
          refine ⟨[0], [cO pr 3 [.int (zI ta2_173), .int (zI bo2_174), .int (zI le2_175), .int (zI ri2_176), .int (zI pn2_177), .int (zI sg2_178)]], ⟨rfl, by decide⟩, ?_⟩
          have hgo := h_171
          refine y_if_eq C 164 dX3_takes_157 (by decide) ⟨by omega, by omega⟩ (fun c_180 => ?_) (fun c_180 => ?_)
          · refine y_iconst C dX3_takes_164 ?_
            refine hret _ _ _ _ dX3_takes_165 ⟨ta2_173, bo2_174, le2_175, ri2_176, pn2_177, sg2_178, rfl, ?_⟩
            show ((0 = 1 ∧ stp (ta, bo, le, ri, pn, sg) ch = some (ta2_173, bo2_174, le2_175, ri2_176, pn2_177, sg2_178)) ∨ (0 = 0 ∧ stp (ta, bo, le, ri, pn, sg) ch = none)) ∧ (Zok ta2_173 bo2_174 le2_175 ri2_176 pn2_177 sg2_178)
            obtain rfl : sg = 4 := by omega
            have hst : ∀ z, stp (ta, bo, le, ri, pn, 4) ch = z → stp (ta, bo, le, ri, pn, 4) ch = z := fun _ e => e
            rw [stp4] at hst
            rw [stp4]
            first | (refine ⟨Or.inl ⟨by omega, ?_⟩, stp_ok hzok (c := ch) (by rw [stp4]; (repeat' split) <;> first | rfl | (exfalso; omega) | exact some6 (by omega))⟩; (repeat' split) <;> first | rfl | (exfalso; omega) | exact some6 (by omega)) | (refine ⟨Or.inr ⟨by omega, ?_⟩, by omega⟩; (repeat' split) <;> first | rfl | (exfalso; omega))
          · refine y_iconst C dX3_takes_160 ?_
            refine y_goto C 165 dX3_takes_161 (by decide) ?_
            refine hret _ _ _ _ dX3_takes_165 ⟨ta2_173, bo2_174, le2_175, ri2_176, pn2_177, sg2_178, rfl, ?_⟩
            show ((1 = 1 ∧ stp (ta, bo, le, ri, pn, sg) ch = some (ta2_173, bo2_174, le2_175, ri2_176, pn2_177, sg2_178)) ∨ (1 = 0 ∧ stp (ta, bo, le, ri, pn, sg) ch = none)) ∧ (Zok ta2_173 bo2_174 le2_175 ri2_176 pn2_177 sg2_178)
            obtain rfl : sg = 4 := by omega
            have hst : ∀ z, stp (ta, bo, le, ri, pn, 4) ch = z → stp (ta, bo, le, ri, pn, 4) ch = z := fun _ e => e
            rw [stp4] at hst
            rw [stp4]
            first | (refine ⟨Or.inl ⟨by omega, ?_⟩, stp_ok hzok (c := ch) (by rw [stp4]; (repeat' split) <;> first | rfl | (exfalso; omega) | exact some6 (by omega))⟩; (repeat' split) <;> first | rfl | (exfalso; omega) | exact some6 (by omega)) | (refine ⟨Or.inr ⟨by omega, ?_⟩, by omega⟩; (repeat' split) <;> first | rfl | (exfalso; omega))
      · refine y_tin C 166 5 dX3_takes_26 ⟨by omega, by omega⟩ ⟨by omega, by omega⟩ (by omega) rfl (by decide) ?_
        refine y_aload_n C 1 dX3_takes_166 rfl ?_
        refine y_iload_n C 2 dX3_takes_167 rfl ?_
        refine y_iload_n C 0 dX3_takes_168 rfl ?_
        refine y_mcalli C (m_X3_takesBehindLeft (l := l) (D := D) (cA := cA) (cB := cB) (pr := pr) (ta := ta) (bo := bo) (le := le) (ri := ri) (pn := pn) (sg := sg) (ch := ch) (dg := ch - 48) (by first | assumption | omega | exact ⟨by omega, by omega⟩) (by first | assumption | omega | exact ⟨by omega, by omega⟩) (by first | assumption | omega | exact ⟨by omega, by omega⟩) (by first | assumption | omega | exact ⟨by omega, by omega⟩)) lk_X3_28 [0] [] ⟨rfl, rfl, by decide, by decide, by decide⟩ (jb := 0) rfl rfl dX3_takes_169 rfl rfl ⟨by exact Nat.le_of_ble_eq_true rfl, by exact Nat.le_of_ble_eq_true rfl, rfl, rfl, by exact Nat.le_of_ble_eq_true rfl, by exact Nat.le_of_ble_eq_true rfl, by exact Nat.le_of_ble_eq_true rfl⟩ (fun r_182 w_189 h_181 => ?_)
        obtain ⟨ta2_183, bo2_184, le2_185, ri2_186, pn2_187, sg2_188, rfl, h_181⟩ := h_181
        refine ⟨[0], [cO pr 3 [.int (zI ta2_183), .int (zI bo2_184), .int (zI le2_185), .int (zI ri2_186), .int (zI pn2_187), .int (zI sg2_188)]], ⟨rfl, by decide⟩, ?_⟩
        have hgo := h_181
        refine hret _ _ _ _ dX3_takes_172 ⟨ta2_183, bo2_184, le2_185, ri2_186, pn2_187, sg2_188, rfl, ?_⟩
        show ((r_182 = 1 ∧ stp (ta, bo, le, ri, pn, sg) ch = some (ta2_183, bo2_184, le2_185, ri2_186, pn2_187, sg2_188)) ∨ (r_182 = 0 ∧ stp (ta, bo, le, ri, pn, sg) ch = none)) ∧ (Zok ta2_183 bo2_184 le2_185 ri2_186 pn2_187 sg2_188)
        obtain rfl : sg = 5 := by omega
        rcases hgo with ⟨h1, h2⟩ | ⟨h1, h2, h3⟩
        · exact ⟨Or.inl ⟨h1, h2⟩, stp_ok hzok h2⟩
        · exact ⟨Or.inr ⟨h1, h2⟩, by omega⟩
      · refine y_tin C 173 6 dX3_takes_26 ⟨by omega, by omega⟩ ⟨by omega, by omega⟩ (by omega) rfl (by decide) ?_
        refine y_iload_n C 0 dX3_takes_173 rfl ?_
        refine y_bipush C dX3_takes_174 (by decide +kernel) ?_
        refine y_icmp_eq C 191 dX3_takes_176 (by decide) ⟨⟨by omega, by omega⟩, ⟨by omega, by omega⟩⟩ (fun c_190 => ?_) (fun c_190 => ?_)
        · refine y_iconst C dX3_takes_191 ?_
          refine hret _ _ _ _ dX3_takes_192 ⟨ta, bo, le, ri, pn, sg, rfl, ?_⟩
          show ((0 = 1 ∧ stp (ta, bo, le, ri, pn, sg) ch = some (ta, bo, le, ri, pn, sg)) ∨ (0 = 0 ∧ stp (ta, bo, le, ri, pn, sg) ch = none)) ∧ (Zok ta bo le ri pn sg)
          obtain rfl : sg = 6 := by omega
          have hst : ∀ z, stp (ta, bo, le, ri, pn, 6) ch = z → stp (ta, bo, le, ri, pn, 6) ch = z := fun _ e => e
          rw [stp6] at hst
          rw [stp6]
          first | (refine ⟨Or.inl ⟨by omega, ?_⟩, stp_ok hzok (c := ch) (by rw [stp6]; (repeat' split) <;> first | rfl | (exfalso; omega) | exact some6 (by omega))⟩; (repeat' split) <;> first | rfl | (exfalso; omega) | exact some6 (by omega)) | (refine ⟨Or.inr ⟨by omega, ?_⟩, by omega⟩; (repeat' split) <;> first | rfl | (exfalso; omega))
        · refine y_aload_n C 1 dX3_takes_179 rfl ?_
          refine y_iload_n C 0 dX3_takes_180 rfl ?_
          refine y_mcalli C (m_X3_takesFirstOfRight (l := l) (D := D) (cA := cA) (cB := cB) (pr := pr) (ta := ta) (bo := bo) (le := le) (ri := ri) (pn := pn) (sg := sg) (dg := ch - 48) (by first | assumption | omega | exact ⟨by omega, by omega⟩) (by first | assumption | omega | exact ⟨by omega, by omega⟩)) lk_X3_32 [0] [] ⟨rfl, rfl, by decide, by decide, by decide⟩ (jb := 0) rfl rfl dX3_takes_181 rfl rfl ⟨by exact Nat.le_of_ble_eq_true rfl, by exact Nat.le_of_ble_eq_true rfl, rfl, rfl, by exact Nat.le_of_ble_eq_true rfl, by exact Nat.le_of_ble_eq_true rfl, by exact Nat.le_of_ble_eq_true rfl⟩ (fun r_192 w_199 h_191 => ?_)
          obtain ⟨ta2_193, bo2_194, le2_195, ri2_196, pn2_197, sg2_198, rfl, h_191⟩ := h_191
          refine ⟨[0], [cO pr 3 [.int (zI ta2_193), .int (zI bo2_194), .int (zI le2_195), .int (zI ri2_196), .int (zI pn2_197), .int (zI sg2_198)]], ⟨rfl, by decide⟩, ?_⟩
          have hgo := h_191
          refine y_if_eq C 191 dX3_takes_184 (by decide) ⟨by omega, by omega⟩ (fun c_200 => ?_) (fun c_200 => ?_)
          · refine y_iconst C dX3_takes_191 ?_
            refine hret _ _ _ _ dX3_takes_192 ⟨ta2_193, bo2_194, le2_195, ri2_196, pn2_197, sg2_198, rfl, ?_⟩
            show ((0 = 1 ∧ stp (ta, bo, le, ri, pn, sg) ch = some (ta2_193, bo2_194, le2_195, ri2_196, pn2_197, sg2_198)) ∨ (0 = 0 ∧ stp (ta, bo, le, ri, pn, sg) ch = none)) ∧ (Zok ta2_193 bo2_194 le2_195 ri2_196 pn2_197 sg2_198)
            obtain rfl : sg = 6 := by omega
            have hst : ∀ z, stp (ta, bo, le, ri, pn, 6) ch = z → stp (ta, bo, le, ri, pn, 6) ch = z := fun _ e => e
            rw [stp6] at hst
            rw [stp6]
            first | (refine ⟨Or.inl ⟨by omega, ?_⟩, stp_ok hzok (c := ch) (by rw [stp6]; (repeat' split) <;> first | rfl | (exfalso; omega) | exact some6 (by omega))⟩; (repeat' split) <;> first | rfl | (exfalso; omega) | exact some6 (by omega)) | (refine ⟨Or.inr ⟨by omega, ?_⟩, by omega⟩; (repeat' split) <;> first | rfl | (exfalso; omega))
          · refine y_iconst C dX3_takes_187 ?_
            refine y_goto C 192 dX3_takes_188 (by decide) ?_
            refine hret _ _ _ _ dX3_takes_192 ⟨ta2_193, bo2_194, le2_195, ri2_196, pn2_197, sg2_198, rfl, ?_⟩
            show ((1 = 1 ∧ stp (ta, bo, le, ri, pn, sg) ch = some (ta2_193, bo2_194, le2_195, ri2_196, pn2_197, sg2_198)) ∨ (1 = 0 ∧ stp (ta, bo, le, ri, pn, sg) ch = none)) ∧ (Zok ta2_193 bo2_194 le2_195 ri2_196 pn2_197 sg2_198)
            obtain rfl : sg = 6 := by omega
            have hst : ∀ z, stp (ta, bo, le, ri, pn, 6) ch = z → stp (ta, bo, le, ri, pn, 6) ch = z := fun _ e => e
            rw [stp6] at hst
            rw [stp6]
            first | (refine ⟨Or.inl ⟨by omega, ?_⟩, stp_ok hzok (c := ch) (by rw [stp6]; (repeat' split) <;> first | rfl | (exfalso; omega) | exact some6 (by omega))⟩; (repeat' split) <;> first | rfl | (exfalso; omega) | exact some6 (by omega)) | (refine ⟨Or.inr ⟨by omega, ?_⟩, by omega⟩; (repeat' split) <;> first | rfl | (exfalso; omega))
      · refine y_tin C 193 7 dX3_takes_26 ⟨by omega, by omega⟩ ⟨by omega, by omega⟩ (by omega) rfl (by decide) ?_
        refine y_aload_n C 1 dX3_takes_193 rfl ?_
        refine y_iload_n C 2 dX3_takes_194 rfl ?_
        refine y_iload_n C 0 dX3_takes_195 rfl ?_
        refine y_mcalli C (m_X3_takesBehindRight (l := l) (D := D) (cA := cA) (cB := cB) (pr := pr) (ta := ta) (bo := bo) (le := le) (ri := ri) (pn := pn) (sg := sg) (ch := ch) (dg := ch - 48) (by first | assumption | omega | exact ⟨by omega, by omega⟩) (by first | assumption | omega | exact ⟨by omega, by omega⟩) (by first | assumption | omega | exact ⟨by omega, by omega⟩) (by first | assumption | omega | exact ⟨by omega, by omega⟩)) lk_X3_35 [0] [] ⟨rfl, rfl, by decide, by decide, by decide⟩ (jb := 0) rfl rfl dX3_takes_196 rfl rfl ⟨by exact Nat.le_of_ble_eq_true rfl, by exact Nat.le_of_ble_eq_true rfl, rfl, rfl, by exact Nat.le_of_ble_eq_true rfl, by exact Nat.le_of_ble_eq_true rfl, by exact Nat.le_of_ble_eq_true rfl⟩ (fun r_202 w_209 h_201 => ?_)
        obtain ⟨ta2_203, bo2_204, le2_205, ri2_206, pn2_207, sg2_208, rfl, h_201⟩ := h_201
        refine ⟨[0], [cO pr 3 [.int (zI ta2_203), .int (zI bo2_204), .int (zI le2_205), .int (zI ri2_206), .int (zI pn2_207), .int (zI sg2_208)]], ⟨rfl, by decide⟩, ?_⟩
        have hgo := h_201
        refine hret _ _ _ _ dX3_takes_199 ⟨ta2_203, bo2_204, le2_205, ri2_206, pn2_207, sg2_208, rfl, ?_⟩
        show ((r_202 = 1 ∧ stp (ta, bo, le, ri, pn, sg) ch = some (ta2_203, bo2_204, le2_205, ri2_206, pn2_207, sg2_208)) ∨ (r_202 = 0 ∧ stp (ta, bo, le, ri, pn, sg) ch = none)) ∧ (Zok ta2_203 bo2_204 le2_205 ri2_206 pn2_207 sg2_208)
        obtain rfl : sg = 7 := by omega
        rcases hgo with ⟨h1, h2⟩ | ⟨h1, h2, h3⟩
        · exact ⟨Or.inl ⟨h1, h2⟩, stp_ok hzok h2⟩
        · exact ⟨Or.inr ⟨h1, h2⟩, by omega⟩
      · refine y_tin C 200 8 dX3_takes_26 ⟨by omega, by omega⟩ ⟨by omega, by omega⟩ (by omega) rfl (by decide) ?_
        refine y_aload_n C 1 dX3_takes_200 rfl ?_
        refine y_iload_n C 0 dX3_takes_201 rfl ?_
        refine y_mcalli C (m_X3_takesPlane (l := l) (D := D) (cA := cA) (cB := cB) (pr := pr) (ta := ta) (bo := bo) (le := le) (ri := ri) (pn := pn) (sg := sg) (dg := ch - 48) (by exact ⟨by omega, by omega⟩)) lk_X3_38 [0] [] ⟨rfl, rfl, by decide, by decide, by decide⟩ (jb := 0) rfl rfl dX3_takes_202 rfl rfl ⟨by exact Nat.le_of_ble_eq_true rfl, by exact Nat.le_of_ble_eq_true rfl, rfl, rfl, by exact Nat.le_of_ble_eq_true rfl, by exact Nat.le_of_ble_eq_true rfl, by exact Nat.le_of_ble_eq_true rfl⟩ (fun r_211 w_218 h_210 => ?_)
        obtain ⟨ta2_212, bo2_213, le2_214, ri2_215, pn2_216, sg2_217, rfl, h_210⟩ := h_210
        refine ⟨[0], [cO pr 3 [.int (zI ta2_212), .int (zI bo2_213), .int (zI le2_214), .int (zI ri2_215), .int (zI pn2_216), .int (zI sg2_217)]], ⟨rfl, by decide⟩, ?_⟩
        have hgo := h_210
        refine hret _ _ _ _ dX3_takes_205 ⟨ta2_212, bo2_213, le2_214, ri2_215, pn2_216, sg2_217, rfl, ?_⟩
        show ((r_211 = 1 ∧ stp (ta, bo, le, ri, pn, sg) ch = some (ta2_212, bo2_213, le2_214, ri2_215, pn2_216, sg2_217)) ∨ (r_211 = 0 ∧ stp (ta, bo, le, ri, pn, sg) ch = none)) ∧ (Zok ta2_212 bo2_213 le2_214 ri2_215 pn2_216 sg2_217)
        obtain rfl : sg = 8 := by omega
        rw [stp8]
        rcases hgo with hgo | hgo
        · exact ⟨Or.inl ⟨hgo.1, by (repeat' split) <;> first | rfl | (exfalso; omega) | exact some6 (by omega)⟩, stp_ok hzok (c := ch) (by rw [stp8]; (repeat' split) <;> first | rfl | (exfalso; omega) | exact some6 (by omega))⟩
        · exact ⟨Or.inr ⟨hgo.1, by (repeat' split) <;> first | rfl | (exfalso; omega)⟩, by omega⟩
      · refine y_tin C 206 9 dX3_takes_26 ⟨by omega, by omega⟩ ⟨by omega, by omega⟩ (by omega) rfl (by decide) ?_
        refine y_iload_n C 2 dX3_takes_206 rfl ?_
        refine y_bipush C dX3_takes_207 (by decide +kernel) ?_
        refine y_icmp_ne C 224 dX3_takes_209 (by decide) ⟨⟨by omega, by omega⟩, ⟨by omega, by omega⟩⟩ (fun c_219 => ?_) (fun c_219 => ?_)
        · refine y_iconst C dX3_takes_224 ?_
          refine hret _ _ _ _ dX3_takes_225 ⟨ta, bo, le, ri, pn, sg, rfl, ?_⟩
          show ((0 = 1 ∧ stp (ta, bo, le, ri, pn, sg) ch = some (ta, bo, le, ri, pn, sg)) ∨ (0 = 0 ∧ stp (ta, bo, le, ri, pn, sg) ch = none)) ∧ (Zok ta bo le ri pn sg)
          obtain rfl : sg = 9 := by omega
          have hst : ∀ z, stp (ta, bo, le, ri, pn, 9) ch = z → stp (ta, bo, le, ri, pn, 9) ch = z := fun _ e => e
          rw [stp9] at hst
          rw [stp9]
          first | (refine ⟨Or.inl ⟨by omega, ?_⟩, stp_ok hzok (c := ch) (by rw [stp9]; (repeat' split) <;> first | rfl | (exfalso; omega) | exact some6 (by omega))⟩; (repeat' split) <;> first | rfl | (exfalso; omega) | exact some6 (by omega)) | (refine ⟨Or.inr ⟨by omega, ?_⟩, by omega⟩; (repeat' split) <;> first | rfl | (exfalso; omega))
        · refine y_aload_n C 1 dX3_takes_212 rfl ?_
          refine y_iconst C dX3_takes_213 ?_
          refine y_mcalli C (m_X3_goesOn (l := l) (D := D) (cA := cA) (cB := cB) (pr := pr) (ta := ta) (bo := bo) (le := le) (ri := ri) (pn := pn) (sg := sg) (nx := 0) ) lk_X3_19 [0] [] ⟨rfl, rfl, by decide, by decide, by decide⟩ (jb := 0) rfl rfl dX3_takes_214 rfl rfl ⟨by exact Nat.le_of_ble_eq_true rfl, by exact Nat.le_of_ble_eq_true rfl, rfl, rfl, by exact Nat.le_of_ble_eq_true rfl, by exact Nat.le_of_ble_eq_true rfl, by exact Nat.le_of_ble_eq_true rfl⟩ (fun r_221 w_222 h_220 => ?_)
          obtain ⟨rfl, h_220⟩ := h_220
          refine ⟨[0], [cO pr 3 [.int (zI ta), .int (zI bo), .int (zI le), .int (zI ri), .int (zI pn), .int (zI 0)]], ⟨rfl, by decide⟩, ?_⟩
          have hgo := h_220
          refine y_if_eq C 224 dX3_takes_217 (by decide) ⟨by omega, by omega⟩ (fun c_223 => ?_) (fun c_223 => ?_)
          · refine y_iconst C dX3_takes_224 ?_
            refine hret _ _ _ _ dX3_takes_225 ⟨ta, bo, le, ri, pn, 0, rfl, ?_⟩
            show ((0 = 1 ∧ stp (ta, bo, le, ri, pn, sg) ch = some (ta, bo, le, ri, pn, 0)) ∨ (0 = 0 ∧ stp (ta, bo, le, ri, pn, sg) ch = none)) ∧ (Zok ta bo le ri pn 0)
            obtain rfl : sg = 9 := by omega
            have hst : ∀ z, stp (ta, bo, le, ri, pn, 9) ch = z → stp (ta, bo, le, ri, pn, 9) ch = z := fun _ e => e
            rw [stp9] at hst
            rw [stp9]
            first | (refine ⟨Or.inl ⟨by omega, ?_⟩, stp_ok hzok (c := ch) (by rw [stp9]; (repeat' split) <;> first | rfl | (exfalso; omega) | exact some6 (by omega))⟩; (repeat' split) <;> first | rfl | (exfalso; omega) | exact some6 (by omega)) | (refine ⟨Or.inr ⟨by omega, ?_⟩, by omega⟩; (repeat' split) <;> first | rfl | (exfalso; omega))
          · refine y_iconst C dX3_takes_220 ?_
            refine y_goto C 225 dX3_takes_221 (by decide) ?_
            refine hret _ _ _ _ dX3_takes_225 ⟨ta, bo, le, ri, pn, 0, rfl, ?_⟩
            show ((1 = 1 ∧ stp (ta, bo, le, ri, pn, sg) ch = some (ta, bo, le, ri, pn, 0)) ∨ (1 = 0 ∧ stp (ta, bo, le, ri, pn, sg) ch = none)) ∧ (Zok ta bo le ri pn 0)
            obtain rfl : sg = 9 := by omega
            have hst : ∀ z, stp (ta, bo, le, ri, pn, 9) ch = z → stp (ta, bo, le, ri, pn, 9) ch = z := fun _ e => e
            rw [stp9] at hst
            rw [stp9]
            first | (refine ⟨Or.inl ⟨by omega, ?_⟩, stp_ok hzok (c := ch) (by rw [stp9]; (repeat' split) <;> first | rfl | (exfalso; omega) | exact some6 (by omega))⟩; (repeat' split) <;> first | rfl | (exfalso; omega) | exact some6 (by omega)) | (refine ⟨Or.inr ⟨by omega, ?_⟩, by omega⟩; (repeat' split) <;> first | rfl | (exfalso; omega))
