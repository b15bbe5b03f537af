set_option maxHeartbeats 4000000 in
set_option maxRecDepth 100000 in
theorem m_X6_lay {l : Launch} {D : va_G} {cA cB : ClassId} {y ms ma mp mk md me mo : Nat} {np ik ml sp wr tp bt lf rg dp : Int} {u av past : Int → Int} {top left bottom right pl : Int} (hztop : zR top) (hzleft : zR left) (hzbottom : zR bottom) (hzright : zR right) (hzpl : zR pl) (hnp : 0 ≤ np ∧ np ≤ 4) (hU : UK u) : MI l yX6_lay cX6_lay 6 .int { frames := 2, cells := 0, slots := 0, locals := 48 } D (zT cA cB) [.ref y, .int (zI top), .int (zI left), .int (zI bottom), .int (zI right), .int (zI pl)] [cO y 6 [.ref ms, .ref ma, .ref mp, .int (zI np), .ref mk, .int (zI ik), .ref md, .int (zI ml), .ref me, .ref mo, .int (zI sp), .int (zI wr), .int (zI tp), .int (zI bt), .int (zI lf), .int (zI rg), .int (zI dp)], cI cA ms 800 u, cI cA ma 800 av, cI cA mp 3200 past] (fun r w => ∃ (u2 : Int → Int), ∃ (av2 : Int → Int), ∃ (past2 : Int → Int), ∃ (np2 : Int), w = [cO y 6 [.ref ms, .ref ma, .ref mp, .int (zI np2), .ref mk, .int (zI ik), .ref md, .int (zI ml), .ref me, .ref mo, .int (zI sp), .int (zI wr), .int (zI tp), .int (zI bt), .int (zI lf), .int (zI rg), .int (zI dp)], cI cA ms 800 u2, cI cA ma 800 av2, cI cA mp 3200 past2] ∧ (r = ansLay u top left bottom right pl) ∧ (∀ j : Int, 0 ≤ j → j < 800 → u2 j = vI (vLay top left bottom right pl) (layU u top left bottom right pl) u j) ∧ (∀ j : Int, 0 ≤ j → j < 800 * np2 → past2 j = vI (vLay top left bottom right pl) (recP past u np) past j) ∧ (np2 = vI (vLay top left bottom right pl) (nxS np) np)) := by
  refine MI.of RX6 ⟨rfl, by decide +kernel⟩ (Or.inl rfl) (Nat.le_of_ble_eq_true rfl) (fun h => by cases h) ?_
  intro K C hret
  change K 0 0 _ [(0, .ref y), (1, .int (zI top)), (2, .int (zI left)), (3, .int (zI bottom)), (4, .int (zI right)), (5, .int (zI pl))] 0 []
  have hztop1 := hztop.1
  have hztop2 := hztop.2
  have hzleft1 := hzleft.1
  have hzleft2 := hzleft.2
  have hzbottom1 := hzbottom.1
  have hzbottom2 := hzbottom.2
  have hzright1 := hzright.1
  have hzright2 := hzright.2
  have hzpl1 := hzpl.1
  have hzpl2 := hzpl.2
  refine y_iload_n C 1 dX6_lay_0 rfl ?_
  refine y_pcalls C (m_X6_isRow (l := l) (D := D) (cA := cA) (cB := cB) (xx := top) (by first | assumption | exact ⟨by omega, by omega⟩)) lk_X6_78 [] [0, 1, 2, 3] [0, 1, 2, 3] ⟨rfl, rfl, by decide, by decide, by decide⟩ ⟨rfl, by decide⟩ dX6_lay_1 rfl rfl ⟨by exact Nat.le_of_ble_eq_true rfl, by exact Nat.le_of_ble_eq_true rfl, rfl, rfl, by exact Nat.le_of_ble_eq_true rfl, by exact Nat.le_of_ble_eq_true rfl, by exact Nat.le_of_ble_eq_true rfl⟩ (fun r_2 h_1 => ?_)
  refine y_if_eq C 45 dX6_lay_4 (by decide) ⟨by omega, by omega⟩ (fun c_3 => ?_) (fun c_3 => ?_)
  · refine y_iconst C dX6_lay_45 ?_
    refine hret _ _ _ _ dX6_lay_46 ⟨u, av, past, np, rfl, ?_⟩
    show ((-1) = ansLay u top left bottom right pl) ∧ (∀ j : Int, 0 ≤ j → j < 800 → u j = vI (vLay top left bottom right pl) (layU u top left bottom right pl) u j) ∧ (∀ j : Int, 0 ≤ j → j < 800 * np → past j = vI (vLay top left bottom right pl) (recP past u np) past j) ∧ (np = vI (vLay top left bottom right pl) (nxS np) np)
    have hV : ¬ (vLay top left bottom right pl) := by omega
    exact ⟨by unfold ansLay; rw [vI_f hV], by rw [vI_f hV]; exact fun _ _ _ => rfl, by rw [vI_f hV]; exact fun _ _ _ => rfl, by rw [vI_f hV]⟩
  · refine y_iload_n C 2 dX6_lay_7 rfl ?_
    refine y_pcalls C (m_X6_isColumn (l := l) (D := D) (cA := cA) (cB := cB) (xx := left) (by first | assumption | exact ⟨by omega, by omega⟩)) lk_X6_52 [] [0, 1, 2, 3] [0, 1, 2, 3] ⟨rfl, rfl, by decide, by decide, by decide⟩ ⟨rfl, by decide⟩ dX6_lay_8 rfl rfl ⟨by exact Nat.le_of_ble_eq_true rfl, by exact Nat.le_of_ble_eq_true rfl, rfl, rfl, by exact Nat.le_of_ble_eq_true rfl, by exact Nat.le_of_ble_eq_true rfl, by exact Nat.le_of_ble_eq_true rfl⟩ (fun r_5 h_4 => ?_)
    refine y_if_eq C 45 dX6_lay_11 (by decide) ⟨by omega, by omega⟩ (fun c_6 => ?_) (fun c_6 => ?_)
    · refine y_iconst C dX6_lay_45 ?_
      refine hret _ _ _ _ dX6_lay_46 ⟨u, av, past, np, rfl, ?_⟩
      show ((-1) = ansLay u top left bottom right pl) ∧ (∀ j : Int, 0 ≤ j → j < 800 → u j = vI (vLay top left bottom right pl) (layU u top left bottom right pl) u j) ∧ (∀ j : Int, 0 ≤ j → j < 800 * np → past j = vI (vLay top left bottom right pl) (recP past u np) past j) ∧ (np = vI (vLay top left bottom right pl) (nxS np) np)
      have hV : ¬ (vLay top left bottom right pl) := by omega
      exact ⟨by unfold ansLay; rw [vI_f hV], by rw [vI_f hV]; exact fun _ _ _ => rfl, by rw [vI_f hV]; exact fun _ _ _ => rfl, by rw [vI_f hV]⟩
    · refine y_iload_n C 3 dX6_lay_14 rfl ?_
      refine y_iload_n C 1 dX6_lay_15 rfl ?_
      refine y_bipush C dX6_lay_16 (by decide +kernel) ?_
      refine y_pcalls C (m_X6_in (l := l) (D := D) (cA := cA) (cB := cB) (vv := bottom) (lo := top) (hi := 7) (by first | assumption | exact ⟨by omega, by omega⟩) (by first | assumption | exact ⟨by omega, by omega⟩) (by first | assumption | exact ⟨by omega, by omega⟩)) lk_X6_31 [] [0, 1, 2, 3] [0, 1, 2, 3] ⟨rfl, rfl, by decide, by decide, by decide⟩ ⟨rfl, by decide⟩ dX6_lay_18 rfl rfl ⟨by exact Nat.le_of_ble_eq_true rfl, by exact Nat.le_of_ble_eq_true rfl, rfl, rfl, by exact Nat.le_of_ble_eq_true rfl, by exact Nat.le_of_ble_eq_true rfl, by exact Nat.le_of_ble_eq_true rfl⟩ (fun r_8 h_7 => ?_)
      refine y_if_eq C 45 dX6_lay_21 (by decide) ⟨by omega, by omega⟩ (fun c_9 => ?_) (fun c_9 => ?_)
      · refine y_iconst C dX6_lay_45 ?_
        refine hret _ _ _ _ dX6_lay_46 ⟨u, av, past, np, rfl, ?_⟩
        show ((-1) = ansLay u top left bottom right pl) ∧ (∀ j : Int, 0 ≤ j → j < 800 → u j = vI (vLay top left bottom right pl) (layU u top left bottom right pl) u j) ∧ (∀ j : Int, 0 ≤ j → j < 800 * np → past j = vI (vLay top left bottom right pl) (recP past u np) past j) ∧ (np = vI (vLay top left bottom right pl) (nxS np) np)
        have hV : ¬ (vLay top left bottom right pl) := by omega
        exact ⟨by unfold ansLay; rw [vI_f hV], by rw [vI_f hV]; exact fun _ _ _ => rfl, by rw [vI_f hV]; exact fun _ _ _ => rfl, by rw [vI_f hV]⟩
      · refine y_iload C 4 dX6_lay_24 rfl ?_
        refine y_iload_n C 2 dX6_lay_26 rfl ?_
        refine y_bipush C dX6_lay_27 (by decide +kernel) ?_
        refine y_pcalls C (m_X6_in (l := l) (D := D) (cA := cA) (cB := cB) (vv := right) (lo := left) (hi := 31) (by first | assumption | exact ⟨by omega, by omega⟩) (by first | assumption | exact ⟨by omega, by omega⟩) (by first | assumption | exact ⟨by omega, by omega⟩)) lk_X6_31 [] [0, 1, 2, 3] [0, 1, 2, 3] ⟨rfl, rfl, by decide, by decide, by decide⟩ ⟨rfl, by decide⟩ dX6_lay_29 rfl rfl ⟨by exact Nat.le_of_ble_eq_true rfl, by exact Nat.le_of_ble_eq_true rfl, rfl, rfl, by exact Nat.le_of_ble_eq_true rfl, by exact Nat.le_of_ble_eq_true rfl, by exact Nat.le_of_ble_eq_true rfl⟩ (fun r_11 h_10 => ?_)
        refine y_if_eq C 45 dX6_lay_32 (by decide) ⟨by omega, by omega⟩ (fun c_12 => ?_) (fun c_12 => ?_)
        · refine y_iconst C dX6_lay_45 ?_
          refine hret _ _ _ _ dX6_lay_46 ⟨u, av, past, np, rfl, ?_⟩
          show ((-1) = ansLay u top left bottom right pl) ∧ (∀ j : Int, 0 ≤ j → j < 800 → u j = vI (vLay top left bottom right pl) (layU u top left bottom right pl) u j) ∧ (∀ j : Int, 0 ≤ j → j < 800 * np → past j = vI (vLay top left bottom right pl) (recP past u np) past j) ∧ (np = vI (vLay top left bottom right pl) (nxS np) np)
          have hV : ¬ (vLay top left bottom right pl) := by omega
          exact ⟨by unfold ansLay; rw [vI_f hV], by rw [vI_f hV]; exact fun _ _ _ => rfl, by rw [vI_f hV]; exact fun _ _ _ => rfl, by rw [vI_f hV]⟩
        · refine y_iload C 5 dX6_lay_35 rfl ?_
          refine y_iconst C dX6_lay_37 ?_
          refine y_iconst C dX6_lay_38 ?_
          refine y_pcalls C (m_X6_in (l := l) (D := D) (cA := cA) (cB := cB) (vv := pl) (lo := 0) (hi := 4) (by first | assumption | exact ⟨by omega, by omega⟩) (by first | assumption | exact ⟨by omega, by omega⟩) (by first | assumption | exact ⟨by omega, by omega⟩)) lk_X6_31 [] [0, 1, 2, 3] [0, 1, 2, 3] ⟨rfl, rfl, by decide, by decide, by decide⟩ ⟨rfl, by decide⟩ dX6_lay_39 rfl rfl ⟨by exact Nat.le_of_ble_eq_true rfl, by exact Nat.le_of_ble_eq_true rfl, rfl, rfl, by exact Nat.le_of_ble_eq_true rfl, by exact Nat.le_of_ble_eq_true rfl, by exact Nat.le_of_ble_eq_true rfl⟩ (fun r_14 h_13 => ?_)
          refine y_if_ne C 47 dX6_lay_42 (by decide) ⟨by omega, by omega⟩ (fun c_15 => ?_) (fun c_15 => ?_)
          · refine y_aload_n C 0 dX6_lay_47 rfl ?_
            refine y_mcallv C (m_X6_records (l := l) (D := D) (cA := cA) (cB := cB) (y := y) (ms := ms) (ma := ma) (mp := mp) (mk := mk) (md := md) (me := me) (mo := mo) (np := np) (ik := ik) (ml := ml) (sp := sp) (wr := wr) (tp := tp) (bt := bt) (lf := lf) (rg := rg) (dp := dp) (u := u) (past := past) (by first | assumption | omega | exact ⟨by omega, by omega⟩)) lk_X6_81 [0, 1, 3] [2] ⟨rfl, rfl, by decide, by decide, by decide⟩ (jb := 0) rfl rfl dX6_lay_48 rfl rfl ⟨by exact Nat.le_of_ble_eq_true rfl, by exact Nat.le_of_ble_eq_true rfl, rfl, rfl, by exact Nat.le_of_ble_eq_true rfl, by exact Nat.le_of_ble_eq_true rfl, by exact Nat.le_of_ble_eq_true rfl⟩ (fun w_20 h_16 => ?_)
            obtain ⟨past2_18, np2_19, rfl, h_16⟩ := h_16
            refine ⟨[1, 2, 0, 3], [cO y 6 [.ref ms, .ref ma, .ref mp, .int (zI np2_19), .ref mk, .int (zI ik), .ref md, .int (zI ml), .ref me, .ref mo, .int (zI sp), .int (zI wr), .int (zI tp), .int (zI bt), .int (zI lf), .int (zI rg), .int (zI dp)], cI cA ms 800 u, cI cA ma 800 av, cI cA mp 3200 past2_18], ⟨rfl, by decide⟩, ?_⟩
            obtain ⟨hr1, hr2⟩ := h_16
            refine y_aload_n C 0 dX6_lay_51 rfl ?_
            refine y_mcallv C (m_X6_putAside (l := l) (D := D) (cA := cA) (cB := cB) (y := y) (ms := ms) (ma := ma) (mp := mp) (mk := mk) (md := md) (me := me) (mo := mo) (np := np2_19) (ik := ik) (ml := ml) (sp := sp) (wr := wr) (tp := tp) (bt := bt) (lf := lf) (rg := rg) (dp := dp) (u := u) (av := av) ) lk_X6_84 [0, 1, 2] [3] ⟨rfl, rfl, by decide, by decide, by decide⟩ (jb := 0) rfl rfl dX6_lay_52 rfl rfl ⟨by exact Nat.le_of_ble_eq_true rfl, by exact Nat.le_of_ble_eq_true rfl, rfl, rfl, by exact Nat.le_of_ble_eq_true rfl, by exact Nat.le_of_ble_eq_true rfl, by exact Nat.le_of_ble_eq_true rfl⟩ (fun w_24 h_21 => ?_)
            obtain ⟨av2_23, rfl, h_21⟩ := h_21
            refine ⟨[1, 2, 3, 0], [cO y 6 [.ref ms, .ref ma, .ref mp, .int (zI np2_19), .ref mk, .int (zI ik), .ref md, .int (zI ml), .ref me, .ref mo, .int (zI sp), .int (zI wr), .int (zI tp), .int (zI bt), .int (zI lf), .int (zI rg), .int (zI dp)], cI cA ms 800 u, cI cA ma 800 av2_23, cI cA mp 3200 past2_18], ⟨rfl, by decide⟩, ?_⟩
            have ha := h_21
            refine y_aload_n C 0 dX6_lay_55 rfl ?_
            refine y_iload_n C 1 dX6_lay_56 rfl ?_
            refine y_iload_n C 2 dX6_lay_57 rfl ?_
            refine y_iload_n C 3 dX6_lay_58 rfl ?_
            refine y_iload C 4 dX6_lay_59 rfl ?_
            refine y_iload C 5 dX6_lay_61 rfl ?_
            refine y_mcallv C (m_X6_lays (l := l) (D := D) (cA := cA) (cB := cB) (y := y) (ms := ms) (ma := ma) (mp := mp) (mk := mk) (md := md) (me := me) (mo := mo) (np := np2_19) (ik := ik) (ml := ml) (sp := sp) (wr := wr) (tp := tp) (bt := bt) (lf := lf) (rg := rg) (dp := dp) (u := u) (top := top) (left := left) (bottom := bottom) (right := right) (pl := pl) (by first | assumption | omega | exact ⟨by omega, by omega⟩) (by first | assumption | omega | exact ⟨by omega, by omega⟩)) lk_X6_87 [0, 1] [2, 3] ⟨rfl, rfl, by decide, by decide, by decide⟩ (jb := 0) rfl rfl dX6_lay_63 rfl rfl ⟨by exact Nat.le_of_ble_eq_true rfl, by exact Nat.le_of_ble_eq_true rfl, rfl, rfl, by exact Nat.le_of_ble_eq_true rfl, by exact Nat.le_of_ble_eq_true rfl, by exact Nat.le_of_ble_eq_true rfl⟩ (fun w_28 h_25 => ?_)
            obtain ⟨u2_27, rfl, h_25⟩ := h_25
            refine ⟨[2, 3, 0, 1], [cO y 6 [.ref ms, .ref ma, .ref mp, .int (zI np2_19), .ref mk, .int (zI ik), .ref md, .int (zI ml), .ref me, .ref mo, .int (zI sp), .int (zI wr), .int (zI tp), .int (zI bt), .int (zI lf), .int (zI rg), .int (zI dp)], cI cA ms 800 u2_27, cI cA ma 800 av2_23, cI cA mp 3200 past2_18], ⟨rfl, by decide⟩, ?_⟩
            have hl := h_25
            refine y_aload_n C 0 dX6_lay_66 rfl ?_
            refine y_bipush C dX6_lay_67 (by decide +kernel) ?_
            refine y_pcall C (m_X6_changed (l := l) (D := D) (cA := cA) (cB := cB) (y := y) (ms := ms) (ma := ma) (mp := mp) (mk := mk) (md := md) (me := me) (mo := mo) (np := np2_19) (ik := ik) (ml := ml) (sp := sp) (wr := wr) (tp := tp) (bt := bt) (lf := lf) (rg := rg) (dp := dp) (u := u2_27) (av := av2_23) (fr := 32) (by exact Or.inl rfl) (by exact (UK_lay hU ⟨by omega, by omega⟩).c hl) (by exact hU.c ha)) lk_X6_91 [0, 1, 2] [3] [1, 2, 3, 0] ⟨rfl, rfl, by decide, by decide, by decide⟩ ⟨rfl, by decide⟩ rfl rfl dX6_lay_69 rfl rfl ⟨by exact Nat.le_of_ble_eq_true rfl, by exact Nat.le_of_ble_eq_true rfl, rfl, rfl, by exact Nat.le_of_ble_eq_true rfl, by exact Nat.le_of_ble_eq_true rfl, by exact Nat.le_of_ble_eq_true rfl⟩ (fun r_30 h_29 => ?_)
            have hv := h_29
            refine hret _ _ _ _ dX6_lay_72 ⟨u2_27, av2_23, past2_18, np2_19, rfl, ?_⟩
            show (r_30 = ansLay u top left bottom right pl) ∧ (∀ j : Int, 0 ≤ j → j < 800 → u2_27 j = vI (vLay top left bottom right pl) (layU u top left bottom right pl) u j) ∧ (∀ j : Int, 0 ≤ j → j < 800 * np2_19 → past2_18 j = vI (vLay top left bottom right pl) (recP past u np) past j) ∧ (np2_19 = vI (vLay top left bottom right pl) (nxS np) np)
            have hV : vLay top left bottom right pl := by omega
            refine ⟨?_, by rw [vI_t hV]; exact hl, by rw [vI_t hV]; exact hr1, by rw [vI_t hV]; exact hr2⟩
            unfold ansLay
            rw [vI_t hV]
            rw [hv.1]
            exact difP_congr (by omega) hl ha
          · refine y_iconst C dX6_lay_45 ?_
            refine hret _ _ _ _ dX6_lay_46 ⟨u, av, past, np, rfl, ?_⟩
            show ((-1) = ansLay u top left bottom right pl) ∧ (∀ j : Int, 0 ≤ j → j < 800 → u j = vI (vLay top left bottom right pl) (layU u top left bottom right pl) u j) ∧ (∀ j : Int, 0 ≤ j → j < 800 * np → past j = vI (vLay top left bottom right pl) (recP past u np) past j) ∧ (np = vI (vLay top left bottom right pl) (nxS np) np)
            have hV : ¬ (vLay top left bottom right pl) := by omega
            exact ⟨by unfold ansLay; rw [vI_f hV], by rw [vI_f hV]; exact fun _ _ _ => rfl, by rw [vI_f hV]; exact fun _ _ _ => rfl, by rw [vI_f hV]⟩

set_option maxHeartbeats 4000000 in
set_option maxRecDepth 100000 in
theorem m_X6_shift {l : Launch} {D : va_G} {cA cB : ClassId} {y ms ma mp mk md me mo : Nat} {np ik ml sp wr tp bt lf rg dp : Int} {u av past : Int → Int} {row sh : Int} (hzrow : zR row) (hzsh : zR sh) (hnp : 0 ≤ np ∧ np ≤ 4) (hU : UK u) : MI l yX6_shift cX6_shift 6 .int { frames := 2, cells := 0, slots := 0, locals := 42 } D (zT cA cB) [.ref y, .int (zI row), .int (zI sh)] [cO y 6 [.ref ms, .ref ma, .ref mp, .int (zI np), .ref mk, .int (zI ik), .ref md, .int (zI ml), .ref me, .ref mo, .int (zI sp), .int (zI wr), .int (zI tp), .int (zI bt), .int (zI lf), .int (zI rg), .int (zI dp)], cI cA ms 800 u, cI cA ma 800 av, cI cA mp 3200 past] (fun r w => ∃ (u2 : Int → Int), ∃ (av2 : Int → Int), ∃ (past2 : Int → Int), ∃ (np2 : Int), w = [cO y 6 [.ref ms, .ref ma, .ref mp, .int (zI np2), .ref mk, .int (zI ik), .ref md, .int (zI ml), .ref me, .ref mo, .int (zI sp), .int (zI wr), .int (zI tp), .int (zI bt), .int (zI lf), .int (zI rg), .int (zI dp)], cI cA ms 800 u2, cI cA ma 800 av2, cI cA mp 3200 past2] ∧ (r = ansShift u row sh) ∧ (∀ j : Int, 0 ≤ j → j < 800 → u2 j = vI (vShift row sh) (shiftU u row sh) u j) ∧ (∀ j : Int, 0 ≤ j → j < 800 * np2 → past2 j = vI (vShift row sh) (recP past u np) past j) ∧ (np2 = vI (vShift row sh) (nxS np) np)) := by
  refine MI.of RX6 ⟨rfl, by decide +kernel⟩ (Or.inl rfl) (Nat.le_of_ble_eq_true rfl) (fun h => by cases h) ?_
  intro K C hret
  change K 0 0 _ [(0, .ref y), (1, .int (zI row)), (2, .int (zI sh))] 0 []
  have hzrow1 := hzrow.1
  have hzrow2 := hzrow.2
  have hzsh1 := hzsh.1
  have hzsh2 := hzsh.2
  have hup := hU.p
  refine y_iload_n C 1 dX6_shift_0 rfl ?_
  refine y_pcalls C (m_X6_isRow (l := l) (D := D) (cA := cA) (cB := cB) (xx := row) (by first | assumption | exact ⟨by omega, by omega⟩)) lk_X6_78 [] [0, 1, 2, 3] [0, 1, 2, 3] ⟨rfl, rfl, by decide, by decide, by decide⟩ ⟨rfl, by decide⟩ dX6_shift_1 rfl rfl ⟨by exact Nat.le_of_ble_eq_true rfl, by exact Nat.le_of_ble_eq_true rfl, rfl, rfl, by exact Nat.le_of_ble_eq_true rfl, by exact Nat.le_of_ble_eq_true rfl, by exact Nat.le_of_ble_eq_true rfl⟩ (fun r_2 h_1 => ?_)
  refine y_if_eq C 18 dX6_shift_4 (by decide) ⟨by omega, by omega⟩ (fun c_3 => ?_) (fun c_3 => ?_)
  · refine y_iconst C dX6_shift_18 ?_
    refine hret _ _ _ _ dX6_shift_19 ⟨u, av, past, np, rfl, ?_⟩
    show ((-1) = ansShift u row sh) ∧ (∀ j : Int, 0 ≤ j → j < 800 → u j = vI (vShift row sh) (shiftU u row sh) u j) ∧ (∀ j : Int, 0 ≤ j → j < 800 * np → past j = vI (vShift row sh) (recP past u np) past j) ∧ (np = vI (vShift row sh) (nxS np) np)
    have hV : ¬ (vShift row sh) := by omega
    exact ⟨by unfold ansShift; rw [vI_f hV], by rw [vI_f hV]; exact fun _ _ _ => rfl, by rw [vI_f hV]; exact fun _ _ _ => rfl, by rw [vI_f hV]⟩
  · refine y_iload_n C 2 dX6_shift_7 rfl ?_
    refine y_bipush C dX6_shift_8 (by decide +kernel) ?_
    refine y_bipush C dX6_shift_10 (by decide +kernel) ?_
    refine y_pcalls C (m_X6_in (l := l) (D := D) (cA := cA) (cB := cB) (vv := sh) (lo := (-31)) (hi := 31) (by first | assumption | exact ⟨by omega, by omega⟩) (by first | assumption | exact ⟨by omega, by omega⟩) (by first | assumption | exact ⟨by omega, by omega⟩)) lk_X6_31 [] [0, 1, 2, 3] [0, 1, 2, 3] ⟨rfl, rfl, by decide, by decide, by decide⟩ ⟨rfl, by decide⟩ dX6_shift_12 rfl rfl ⟨by exact Nat.le_of_ble_eq_true rfl, by exact Nat.le_of_ble_eq_true rfl, rfl, rfl, by exact Nat.le_of_ble_eq_true rfl, by exact Nat.le_of_ble_eq_true rfl, by exact Nat.le_of_ble_eq_true rfl⟩ (fun r_5 h_4 => ?_)
    refine y_if_ne C 20 dX6_shift_15 (by decide) ⟨by omega, by omega⟩ (fun c_6 => ?_) (fun c_6 => ?_)
    · refine y_aload_n C 0 dX6_shift_20 rfl ?_
      refine y_mcallv C (m_X6_records (l := l) (D := D) (cA := cA) (cB := cB) (y := y) (ms := ms) (ma := ma) (mp := mp) (mk := mk) (md := md) (me := me) (mo := mo) (np := np) (ik := ik) (ml := ml) (sp := sp) (wr := wr) (tp := tp) (bt := bt) (lf := lf) (rg := rg) (dp := dp) (u := u) (past := past) (by first | assumption | omega | exact ⟨by omega, by omega⟩)) lk_X6_81 [0, 1, 3] [2] ⟨rfl, rfl, by decide, by decide, by decide⟩ (jb := 0) rfl rfl dX6_shift_21 rfl rfl ⟨by exact Nat.le_of_ble_eq_true rfl, by exact Nat.le_of_ble_eq_true rfl, rfl, rfl, by exact Nat.le_of_ble_eq_true rfl, by exact Nat.le_of_ble_eq_true rfl, by exact Nat.le_of_ble_eq_true rfl⟩ (fun w_11 h_7 => ?_)
      obtain ⟨past2_9, np2_10, rfl, h_7⟩ := h_7
      refine ⟨[1, 2, 0, 3], [cO y 6 [.ref ms, .ref ma, .ref mp, .int (zI np2_10), .ref mk, .int (zI ik), .ref md, .int (zI ml), .ref me, .ref mo, .int (zI sp), .int (zI wr), .int (zI tp), .int (zI bt), .int (zI lf), .int (zI rg), .int (zI dp)], cI cA ms 800 u, cI cA ma 800 av, cI cA mp 3200 past2_9], ⟨rfl, by decide⟩, ?_⟩
      obtain ⟨hr1, hr2⟩ := h_7
      refine y_aload_n C 0 dX6_shift_24 rfl ?_
      refine y_mcallv C (m_X6_putAside (l := l) (D := D) (cA := cA) (cB := cB) (y := y) (ms := ms) (ma := ma) (mp := mp) (mk := mk) (md := md) (me := me) (mo := mo) (np := np2_10) (ik := ik) (ml := ml) (sp := sp) (wr := wr) (tp := tp) (bt := bt) (lf := lf) (rg := rg) (dp := dp) (u := u) (av := av) ) lk_X6_84 [0, 1, 2] [3] ⟨rfl, rfl, by decide, by decide, by decide⟩ (jb := 0) rfl rfl dX6_shift_25 rfl rfl ⟨by exact Nat.le_of_ble_eq_true rfl, by exact Nat.le_of_ble_eq_true rfl, rfl, rfl, by exact Nat.le_of_ble_eq_true rfl, by exact Nat.le_of_ble_eq_true rfl, by exact Nat.le_of_ble_eq_true rfl⟩ (fun w_15 h_12 => ?_)
      obtain ⟨av2_14, rfl, h_12⟩ := h_12
      refine ⟨[1, 2, 3, 0], [cO y 6 [.ref ms, .ref ma, .ref mp, .int (zI np2_10), .ref mk, .int (zI ik), .ref md, .int (zI ml), .ref me, .ref mo, .int (zI sp), .int (zI wr), .int (zI tp), .int (zI bt), .int (zI lf), .int (zI rg), .int (zI dp)], cI cA ms 800 u, cI cA ma 800 av2_14, cI cA mp 3200 past2_9], ⟨rfl, by decide⟩, ?_⟩
      have ha := h_12
      refine y_iconst C dX6_shift_28 ?_
      refine y_istore_n C [(3, .int (zI 0)), (0, .ref y), (1, .int (zI row)), (2, .int (zI sh))] dX6_shift_29 (by decide) rfl ?_
      refine y_iconst C dX6_shift_30 ?_
      refine y_istore C [(4, .int (zI 0)), (3, .int (zI 0)), (0, .ref y), (1, .int (zI row)), (2, .int (zI sh))] dX6_shift_31 (by decide) rfl ?_
      refine y_lsub C [2, 3, 4, 1, 0] (lv' := [(0, .ref y), (1, .int (zI row)), (2, .int (zI sh)), (3, .int (zI 0)), (4, .int (zI 0))]) rfl ?_
      suffices hL33 : ∀ (fu : Nat) (n : Int) (c : Int) (u1 : Int → Int), (0 ≤ c ∧ c ≤ 32) → (n = zcnt (fun j => 0 < shv u row sh j) c ∧ 0 ≤ n ∧ n ≤ c) → (∀ j : Int, 0 ≤ j → j < 800 → u1 j = if 32 + row * 32 ≤ j ∧ j < 32 + row * 32 + c then shv u row sh (j - (32 + row * 32)) else u j) → (32 - c).toNat < fu → K 0 0 [cO y 6 [.ref ms, .ref ma, .ref mp, .int (zI np2_10), .ref mk, .int (zI ik), .ref md, .int (zI ml), .ref me, .ref mo, .int (zI sp), .int (zI wr), .int (zI tp), .int (zI bt), .int (zI lf), .int (zI rg), .int (zI dp)], cI cA ms 800 u1, cI cA ma 800 av2_14, cI cA mp 3200 past2_9] [(0, .ref y), (1, .int (zI row)), (2, .int (zI sh)), (3, .int (zI n)), (4, .int (zI c))] 33 [] from hL33 _ 0 0 u (by omega) (by exact ⟨rfl, by omega, by omega⟩) (by intro j a b; rw [if_neg (by omega)]) (Nat.lt_succ_self _)
      intro f33
      induction f33 with
      | zero => exact fun _ _ _ _ _ _ hf => absurd hf (Nat.not_lt_zero _)
      | succ f33 ih33 =>
        intro n c u1 hc hn hu1 hf33
        refine y_iload C 4 dX6_shift_33 rfl ?_
        refine y_bipush C dX6_shift_35 (by decide +kernel) ?_
        refine y_icmp_ge C 107 dX6_shift_37 (by decide) ⟨⟨by omega, by omega⟩, ⟨by omega, by omega⟩⟩ (fun c_16 => ?_) (fun c_16 => ?_)
        · refine y_iload_n C 3 dX6_shift_107 rfl ?_
          refine hret _ _ _ _ dX6_shift_108 ⟨u1, av2_14, past2_9, np2_10, rfl, ?_⟩
          show (n = ansShift u row sh) ∧ (∀ j : Int, 0 ≤ j → j < 800 → u1 j = vI (vShift row sh) (shiftU u row sh) u j) ∧ (∀ j : Int, 0 ≤ j → j < 800 * np2_10 → past2_9 j = vI (vShift row sh) (recP past u np) past j) ∧ (np2_10 = vI (vShift row sh) (nxS np) np)
          obtain rfl : c = 32 := by omega
          have hV : vShift row sh := by omega
          refine ⟨?_, by rw [vI_t hV]; exact fun j a b => (hu1 j a b).trans (by unfold shiftU; (repeat' split) <;> first | rfl | (exfalso; omega)), by rw [vI_t hV]; exact hr1, by rw [vI_t hV]; exact hr2⟩
          unfold ansShift
          rw [vI_t hV]
          exact hn.1
        · refine y_iload C 4 dX6_shift_40 rfl ?_
          refine y_iload_n C 2 dX6_shift_42 rfl ?_
          refine y_isub C dX6_shift_43 ?_
          refine y_pcalls C (m_X6_isColumn (l := l) (D := D) (cA := cA) (cB := cB) (xx := c - sh) (by exact ⟨by omega, by omega⟩)) lk_X6_52 [] [0, 1, 2, 3] [0, 1, 2, 3] ⟨rfl, rfl, by decide, by decide, by decide⟩ ⟨rfl, by decide⟩ dX6_shift_44 rfl rfl ⟨by exact Nat.le_of_ble_eq_true rfl, by exact Nat.le_of_ble_eq_true rfl, rfl, rfl, by exact Nat.le_of_ble_eq_true rfl, by exact Nat.le_of_ble_eq_true rfl, by exact Nat.le_of_ble_eq_true rfl⟩ (fun r_18 h_17 => ?_)
          refine y_if_eq C 69 dX6_shift_47 (by decide) ⟨by omega, by omega⟩ (fun c_19 => ?_) (fun c_19 => ?_)
          · refine y_iconst C dX6_shift_69 ?_
            refine y_istore C [(5, .int (zI 0)), (0, .ref y), (1, .int (zI row)), (2, .int (zI sh)), (3, .int (zI n)), (4, .int (zI c))] dX6_shift_70 (by decide) rfl ?_
            have hsv : (0 : Int) = shv u row sh c := by unfold shv; first | (rw [if_pos (by omega)]; exact ha _ (by omega) (by omega)) | rw [if_neg (by omega)]
            have hsr : 0 ≤ (0 : Int) ∧ (0 : Int) ≤ 4 := by first | (rw [ha _ (by omega) (by omega)]; exact hup (row * 32 + (c - sh)) (by omega) (by omega)) | omega
            refine y_aload_n C 1 dX6_shift_72 rfl ?_
            refine y_get C fg_X6_7 0 dX6_shift_73 rfl rfl ?_
            refine y_bipush C dX6_shift_76 (by decide +kernel) ?_
            refine y_iload_n C 2 dX6_shift_78 rfl ?_
            refine y_iload C 5 dX6_shift_79 rfl ?_
            refine y_pcalls C (m_X6_place (l := l) (D := D) (cA := cA) (cB := cB) (rr := row) (cc := c) ) lk_X6_35 [] [0, 1, 2, 3] [0, 1, 2, 3] ⟨rfl, rfl, by decide, by decide, by decide⟩ ⟨rfl, by decide⟩ dX6_shift_81 rfl rfl ⟨by exact Nat.le_of_ble_eq_true rfl, by exact Nat.le_of_ble_eq_true rfl, rfl, rfl, by exact Nat.le_of_ble_eq_true rfl, by exact Nat.le_of_ble_eq_true rfl, by exact Nat.le_of_ble_eq_true rfl⟩ (fun r_21 h_20 => ?_)
            refine y_iadd C dX6_shift_84 ?_
            refine y_top (show (32 + r_21) = (32 + (row * 32 + c)) from by omega) ?_
            refine y_iload C 0 dX6_shift_85 rfl ?_
            refine y_iast C 1 0 [cO y 6 [.ref ms, .ref ma, .ref mp, .int (zI np2_10), .ref mk, .int (zI ik), .ref md, .int (zI ml), .ref me, .ref mo, .int (zI sp), .int (zI wr), .int (zI tp), .int (zI bt), .int (zI lf), .int (zI rg), .int (zI dp)], cI cA ms 800 (zU u1 (32 + (row * 32 + c)) 0), cI cA ma 800 av2_14, cI cA mp 3200 past2_9] dX6_shift_87 rfl rfl ⟨by omega, by omega, by omega⟩ rfl ?_
            refine y_iload_n C 4 dX6_shift_88 rfl ?_
            refine y_iload C 0 dX6_shift_89 rfl ?_
            refine y_if_le C 98 dX6_shift_91 (by decide) ⟨by omega, by omega⟩ (fun _ => ?_) (fun h => absurd h (by decide))
            refine y_iconst C dX6_shift_98 ?_
            refine y_iadd C dX6_shift_99 ?_
            refine y_istore_n C [(3, .int (zI (n + 0))), (5, .int (zI 0)), (0, .ref y), (1, .int (zI row)), (2, .int (zI sh)), (4, .int (zI c))] dX6_shift_100 (by decide) rfl ?_
            refine y_iinc C 5 [(4, .int (zI (c + 1))), (3, .int (zI (n + 0))), (5, .int (zI 0)), (0, .ref y), (1, .int (zI row)), (2, .int (zI sh))] dX6_shift_101 rfl (by decide) rfl ?_
            refine y_goto C 33 dX6_shift_104 (by decide) ?_
            refine y_lsub C [3, 4, 5, 1, 0] (lv' := [(0, .ref y), (1, .int (zI row)), (2, .int (zI sh)), (3, .int (zI (n + 0))), (4, .int (zI (c + 1)))]) rfl ?_
            exact ih33 (n + 0) (c + 1) (zU u1 (32 + (row * 32 + c)) 0) (by omega) (by refine ⟨?_, by omega, by omega⟩; exact zcnt_step (by omega) hn.1 (by rw [← hsv]; omega)) (by intro j a b; exact (Classical.em (j = 32 + (row * 32 + c))).elim (fun q => by subst q; rw [zU_s, if_pos (by omega), hsv]; congr 1; omega) (fun q => by rw [zU_n q, hu1 j a b]; (repeat' split) <;> first | rfl | (exfalso; omega))) (by omega)
          · refine y_aload_n C 0 dX6_shift_50 rfl ?_
            refine y_get C fg_X6_13 0 dX6_shift_51 rfl rfl ?_
            refine y_bipush C dX6_shift_54 (by decide +kernel) ?_
            refine y_iload_n C 1 dX6_shift_56 rfl ?_
            refine y_iload C 4 dX6_shift_57 rfl ?_
            refine y_iload_n C 2 dX6_shift_59 rfl ?_
            refine y_isub C dX6_shift_60 ?_
            refine y_pcalls C (m_X6_place (l := l) (D := D) (cA := cA) (cB := cB) (rr := row) (cc := c - sh) ) lk_X6_35 [] [0, 1, 2, 3] [0, 1, 2, 3] ⟨rfl, rfl, by decide, by decide, by decide⟩ ⟨rfl, by decide⟩ dX6_shift_61 rfl rfl ⟨by exact Nat.le_of_ble_eq_true rfl, by exact Nat.le_of_ble_eq_true rfl, rfl, rfl, by exact Nat.le_of_ble_eq_true rfl, by exact Nat.le_of_ble_eq_true rfl, by exact Nat.le_of_ble_eq_true rfl⟩ (fun r_24 h_23 => ?_)
            refine y_iadd C dX6_shift_64 ?_
            refine y_top (show (32 + r_24) = (32 + (row * 32 + (c - sh))) from by omega) ?_
            refine y_iald C 2 0 dX6_shift_65 rfl rfl ⟨by omega, by omega, by omega⟩ ?_
            refine y_goto C 70 dX6_shift_66 (by decide) ?_
            refine y_istore C [(5, .int (zI (av2_14 (32 + (row * 32 + (c - sh)))))), (0, .ref y), (1, .int (zI row)), (2, .int (zI sh)), (3, .int (zI n)), (4, .int (zI c))] dX6_shift_70 (by decide) rfl ?_
            have hsv : (av2_14 (32 + (row * 32 + (c - sh)))) = shv u row sh c := by unfold shv; first | (rw [if_pos (by omega)]; exact ha _ (by omega) (by omega)) | rw [if_neg (by omega)]
            have hsr : 0 ≤ (av2_14 (32 + (row * 32 + (c - sh)))) ∧ (av2_14 (32 + (row * 32 + (c - sh)))) ≤ 4 := by first | (rw [ha _ (by omega) (by omega)]; exact hup (row * 32 + (c - sh)) (by omega) (by omega)) | omega
            refine y_aload_n C 1 dX6_shift_72 rfl ?_
            refine y_get C fg_X6_7 0 dX6_shift_73 rfl rfl ?_
            refine y_bipush C dX6_shift_76 (by decide +kernel) ?_
            refine y_iload_n C 2 dX6_shift_78 rfl ?_
            refine y_iload C 5 dX6_shift_79 rfl ?_
            refine y_pcalls C (m_X6_place (l := l) (D := D) (cA := cA) (cB := cB) (rr := row) (cc := c) ) lk_X6_35 [] [0, 1, 2, 3] [0, 1, 2, 3] ⟨rfl, rfl, by decide, by decide, by decide⟩ ⟨rfl, by decide⟩ dX6_shift_81 rfl rfl ⟨by exact Nat.le_of_ble_eq_true rfl, by exact Nat.le_of_ble_eq_true rfl, rfl, rfl, by exact Nat.le_of_ble_eq_true rfl, by exact Nat.le_of_ble_eq_true rfl, by exact Nat.le_of_ble_eq_true rfl⟩ (fun r_26 h_25 => ?_)
            refine y_iadd C dX6_shift_84 ?_
            refine y_top (show (32 + r_26) = (32 + (row * 32 + c)) from by omega) ?_
            refine y_iload C 0 dX6_shift_85 rfl ?_
            refine y_iast C 1 0 [cO y 6 [.ref ms, .ref ma, .ref mp, .int (zI np2_10), .ref mk, .int (zI ik), .ref md, .int (zI ml), .ref me, .ref mo, .int (zI sp), .int (zI wr), .int (zI tp), .int (zI bt), .int (zI lf), .int (zI rg), .int (zI dp)], cI cA ms 800 (zU u1 (32 + (row * 32 + c)) (av2_14 (32 + (row * 32 + (c - sh))))), cI cA ma 800 av2_14, cI cA mp 3200 past2_9] dX6_shift_87 rfl rfl ⟨by omega, by omega, by omega⟩ rfl ?_
            refine y_iload_n C 4 dX6_shift_88 rfl ?_
            refine y_iload C 0 dX6_shift_89 rfl ?_
            refine y_if_le C 98 dX6_shift_91 (by decide) ⟨by omega, by omega⟩ (fun c_27 => ?_) (fun c_27 => ?_)
            · refine y_iconst C dX6_shift_98 ?_
              refine y_iadd C dX6_shift_99 ?_
              refine y_istore_n C [(3, .int (zI (n + 0))), (5, .int (zI (av2_14 (32 + (row * 32 + (c - sh)))))), (0, .ref y), (1, .int (zI row)), (2, .int (zI sh)), (4, .int (zI c))] dX6_shift_100 (by decide) rfl ?_
              refine y_iinc C 5 [(4, .int (zI (c + 1))), (3, .int (zI (n + 0))), (5, .int (zI (av2_14 (32 + (row * 32 + (c - sh)))))), (0, .ref y), (1, .int (zI row)), (2, .int (zI sh))] dX6_shift_101 rfl (by decide) rfl ?_
              refine y_goto C 33 dX6_shift_104 (by decide) ?_
              refine y_lsub C [3, 4, 5, 1, 0] (lv' := [(0, .ref y), (1, .int (zI row)), (2, .int (zI sh)), (3, .int (zI (n + 0))), (4, .int (zI (c + 1)))]) rfl ?_
              exact ih33 (n + 0) (c + 1) (zU u1 (32 + (row * 32 + c)) (av2_14 (32 + (row * 32 + (c - sh))))) (by omega) (by refine ⟨?_, by omega, by omega⟩; exact zcnt_step (by omega) hn.1 (by rw [← hsv]; omega)) (by intro j a b; exact (Classical.em (j = 32 + (row * 32 + c))).elim (fun q => by subst q; rw [zU_s, if_pos (by omega), hsv]; congr 1; omega) (fun q => by rw [zU_n q, hu1 j a b]; (repeat' split) <;> first | rfl | (exfalso; omega))) (by omega)
            · refine y_iconst C dX6_shift_94 ?_
              refine y_goto C 99 dX6_shift_95 (by decide) ?_
              refine y_iadd C dX6_shift_99 ?_
              refine y_istore_n C [(3, .int (zI (n + 1))), (5, .int (zI (av2_14 (32 + (row * 32 + (c - sh)))))), (0, .ref y), (1, .int (zI row)), (2, .int (zI sh)), (4, .int (zI c))] dX6_shift_100 (by decide) rfl ?_
              refine y_iinc C 5 [(4, .int (zI (c + 1))), (3, .int (zI (n + 1))), (5, .int (zI (av2_14 (32 + (row * 32 + (c - sh)))))), (0, .ref y), (1, .int (zI row)), (2, .int (zI sh))] dX6_shift_101 rfl (by decide) rfl ?_
              refine y_goto C 33 dX6_shift_104 (by decide) ?_
              refine y_lsub C [3, 4, 5, 1, 0] (lv' := [(0, .ref y), (1, .int (zI row)), (2, .int (zI sh)), (3, .int (zI (n + 1))), (4, .int (zI (c + 1)))]) rfl ?_
              exact ih33 (n + 1) (c + 1) (zU u1 (32 + (row * 32 + c)) (av2_14 (32 + (row * 32 + (c - sh))))) (by omega) (by refine ⟨?_, by omega, by omega⟩; exact zcnt_step (by omega) hn.1 (by rw [← hsv]; omega)) (by intro j a b; exact (Classical.em (j = 32 + (row * 32 + c))).elim (fun q => by subst q; rw [zU_s, if_pos (by omega), hsv]; congr 1; omega) (fun q => by rw [zU_n q, hu1 j a b]; (repeat' split) <;> first | rfl | (exfalso; omega))) (by omega)
    · refine y_iconst C dX6_shift_18 ?_
      refine hret _ _ _ _ dX6_shift_19 ⟨u, av, past, np, rfl, ?_⟩
      show ((-1) = ansShift u row sh) ∧ (∀ j : Int, 0 ≤ j → j < 800 → u j = vI (vShift row sh) (shiftU u row sh) u j) ∧ (∀ j : Int, 0 ≤ j → j < 800 * np → past j = vI (vShift row sh) (recP past u np) past j) ∧ (np = vI (vShift row sh) (nxS np) np)
      have hV : ¬ (vShift row sh) := by omega
      exact ⟨by unfold ansShift; rw [vI_f hV], by rw [vI_f hV]; exact fun _ _ _ => rfl, by rw [vI_f hV]; exact fun _ _ _ => rfl, by rw [vI_f hV]⟩

set_option maxHeartbeats 4000000 in
set_option maxRecDepth 100000 in
theorem m_X6_swap {l : Launch} {D : va_G} {cA cB : ClassId} {y ms ma mp mk md me mo : Nat} {np ik ml sp wr tp bt lf rg dp : Int} {u av past : Int → Int} {row q : Int} (hzrow : zR row) (hzq : zR q) (hnp : 0 ≤ np ∧ np ≤ 4) (hU : UK u) : MI l yX6_swap cX6_swap 6 .int { frames := 2, cells := 0, slots := 0, locals := 43 } D (zT cA cB) [.ref y, .int (zI row), .int (zI q)] [cO y 6 [.ref ms, .ref ma, .ref mp, .int (zI np), .ref mk, .int (zI ik), .ref md, .int (zI ml), .ref me, .ref mo, .int (zI sp), .int (zI wr), .int (zI tp), .int (zI bt), .int (zI lf), .int (zI rg), .int (zI dp)], cI cA ms 800 u, cI cA ma 800 av, cI cA mp 3200 past] (fun r w => ∃ (u2 : Int → Int), ∃ (av2 : Int → Int), ∃ (past2 : Int → Int), ∃ (np2 : Int), w = [cO y 6 [.ref ms, .ref ma, .ref mp, .int (zI np2), .ref mk, .int (zI ik), .ref md, .int (zI ml), .ref me, .ref mo, .int (zI sp), .int (zI wr), .int (zI tp), .int (zI bt), .int (zI lf), .int (zI rg), .int (zI dp)], cI cA ms 800 u2, cI cA ma 800 av2, cI cA mp 3200 past2] ∧ (r = ansSwap u row q) ∧ (∀ j : Int, 0 ≤ j → j < 800 → u2 j = vI (vSwap row q) (swapU u row q) u j) ∧ (∀ j : Int, 0 ≤ j → j < 800 * np2 → past2 j = vI (vSwap row q) (recP past u np) past j) ∧ (np2 = vI (vSwap row q) (nxS np) np)) := by
  refine MI.of RX6 ⟨rfl, by decide +kernel⟩ (Or.inl rfl) (Nat.le_of_ble_eq_true rfl) (fun h => by cases h) ?_
  intro K C hret
  change K 0 0 _ [(0, .ref y), (1, .int (zI row)), (2, .int (zI q))] 0 []
  have hzrow1 := hzrow.1
  have hzrow2 := hzrow.2
  have hzq1 := hzq.1
  have hzq2 := hzq.2
  refine y_iload_n C 1 dX6_swap_0 rfl ?_
  refine y_pcalls C (m_X6_isRow (l := l) (D := D) (cA := cA) (cB := cB) (xx := row) (by first | assumption | exact ⟨by omega, by omega⟩)) lk_X6_78 [] [0, 1, 2, 3] [0, 1, 2, 3] ⟨rfl, rfl, by decide, by decide, by decide⟩ ⟨rfl, by decide⟩ dX6_swap_1 rfl rfl ⟨by exact Nat.le_of_ble_eq_true rfl, by exact Nat.le_of_ble_eq_true rfl, rfl, rfl, by exact Nat.le_of_ble_eq_true rfl, by exact Nat.le_of_ble_eq_true rfl, by exact Nat.le_of_ble_eq_true rfl⟩ (fun r_2 h_1 => ?_)
  refine y_if_eq C 19 dX6_swap_4 (by decide) ⟨by omega, by omega⟩ (fun c_3 => ?_) (fun c_3 => ?_)
  · refine y_iconst C dX6_swap_19 ?_
    refine hret _ _ _ _ dX6_swap_20 ⟨u, av, past, np, rfl, ?_⟩
    show ((-1) = ansSwap u row q) ∧ (∀ j : Int, 0 ≤ j → j < 800 → u j = vI (vSwap row q) (swapU u row q) u j) ∧ (∀ j : Int, 0 ≤ j → j < 800 * np → past j = vI (vSwap row q) (recP past u np) past j) ∧ (np = vI (vSwap row q) (nxS np) np)
    have hV : ¬ (vSwap row q) := by omega
    exact ⟨by unfold ansSwap; rw [vI_f hV], by rw [vI_f hV]; exact fun _ _ _ => rfl, by rw [vI_f hV]; exact fun _ _ _ => rfl, by rw [vI_f hV]⟩
  · refine y_iload_n C 2 dX6_swap_7 rfl ?_
    refine y_pcalls C (m_X6_isRow (l := l) (D := D) (cA := cA) (cB := cB) (xx := q) (by first | assumption | exact ⟨by omega, by omega⟩)) lk_X6_78 [] [0, 1, 2, 3] [0, 1, 2, 3] ⟨rfl, rfl, by decide, by decide, by decide⟩ ⟨rfl, by decide⟩ dX6_swap_8 rfl rfl ⟨by exact Nat.le_of_ble_eq_true rfl, by exact Nat.le_of_ble_eq_true rfl, rfl, rfl, by exact Nat.le_of_ble_eq_true rfl, by exact Nat.le_of_ble_eq_true rfl, by exact Nat.le_of_ble_eq_true rfl⟩ (fun r_5 h_4 => ?_)
    refine y_if_eq C 19 dX6_swap_11 (by decide) ⟨by omega, by omega⟩ (fun c_6 => ?_) (fun c_6 => ?_)
    · refine y_iconst C dX6_swap_19 ?_
      refine hret _ _ _ _ dX6_swap_20 ⟨u, av, past, np, rfl, ?_⟩
      show ((-1) = ansSwap u row q) ∧ (∀ j : Int, 0 ≤ j → j < 800 → u j = vI (vSwap row q) (swapU u row q) u j) ∧ (∀ j : Int, 0 ≤ j → j < 800 * np → past j = vI (vSwap row q) (recP past u np) past j) ∧ (np = vI (vSwap row q) (nxS np) np)
      have hV : ¬ (vSwap row q) := by omega
      exact ⟨by unfold ansSwap; rw [vI_f hV], by rw [vI_f hV]; exact fun _ _ _ => rfl, by rw [vI_f hV]; exact fun _ _ _ => rfl, by rw [vI_f hV]⟩
    · refine y_iload_n C 1 dX6_swap_14 rfl ?_
      refine y_iload_n C 2 dX6_swap_15 rfl ?_
      refine y_icmp_ne C 21 dX6_swap_16 (by decide) ⟨⟨by omega, by omega⟩, ⟨by omega, by omega⟩⟩ (fun c_7 => ?_) (fun c_7 => ?_)
      · refine y_aload_n C 0 dX6_swap_21 rfl ?_
        refine y_mcallv C (m_X6_records (l := l) (D := D) (cA := cA) (cB := cB) (y := y) (ms := ms) (ma := ma) (mp := mp) (mk := mk) (md := md) (me := me) (mo := mo) (np := np) (ik := ik) (ml := ml) (sp := sp) (wr := wr) (tp := tp) (bt := bt) (lf := lf) (rg := rg) (dp := dp) (u := u) (past := past) (by first | assumption | omega | exact ⟨by omega, by omega⟩)) lk_X6_81 [0, 1, 3] [2] ⟨rfl, rfl, by decide, by decide, by decide⟩ (jb := 0) rfl rfl dX6_swap_22 rfl rfl ⟨by exact Nat.le_of_ble_eq_true rfl, by exact Nat.le_of_ble_eq_true rfl, rfl, rfl, by exact Nat.le_of_ble_eq_true rfl, by exact Nat.le_of_ble_eq_true rfl, by exact Nat.le_of_ble_eq_true rfl⟩ (fun w_12 h_8 => ?_)
        obtain ⟨past2_10, np2_11, rfl, h_8⟩ := h_8
        refine ⟨[1, 2, 0, 3], [cO y 6 [.ref ms, .ref ma, .ref mp, .int (zI np2_11), .ref mk, .int (zI ik), .ref md, .int (zI ml), .ref me, .ref mo, .int (zI sp), .int (zI wr), .int (zI tp), .int (zI bt), .int (zI lf), .int (zI rg), .int (zI dp)], cI cA ms 800 u, cI cA ma 800 av, cI cA mp 3200 past2_10], ⟨rfl, by decide⟩, ?_⟩
        obtain ⟨hr1, hr2⟩ := h_8
        refine y_aload_n C 0 dX6_swap_25 rfl ?_
        refine y_mcallv C (m_X6_putAside (l := l) (D := D) (cA := cA) (cB := cB) (y := y) (ms := ms) (ma := ma) (mp := mp) (mk := mk) (md := md) (me := me) (mo := mo) (np := np2_11) (ik := ik) (ml := ml) (sp := sp) (wr := wr) (tp := tp) (bt := bt) (lf := lf) (rg := rg) (dp := dp) (u := u) (av := av) ) lk_X6_84 [0, 1, 2] [3] ⟨rfl, rfl, by decide, by decide, by decide⟩ (jb := 0) rfl rfl dX6_swap_26 rfl rfl ⟨by exact Nat.le_of_ble_eq_true rfl, by exact Nat.le_of_ble_eq_true rfl, rfl, rfl, by exact Nat.le_of_ble_eq_true rfl, by exact Nat.le_of_ble_eq_true rfl, by exact Nat.le_of_ble_eq_true rfl⟩ (fun w_16 h_13 => ?_)
        obtain ⟨av2_15, rfl, h_13⟩ := h_13
        refine ⟨[1, 2, 3, 0], [cO y 6 [.ref ms, .ref ma, .ref mp, .int (zI np2_11), .ref mk, .int (zI ik), .ref md, .int (zI ml), .ref me, .ref mo, .int (zI sp), .int (zI wr), .int (zI tp), .int (zI bt), .int (zI lf), .int (zI rg), .int (zI dp)], cI cA ms 800 u, cI cA ma 800 av2_15, cI cA mp 3200 past2_10], ⟨rfl, by decide⟩, ?_⟩
        have ha := h_13
        refine y_iconst C dX6_swap_29 ?_
        refine y_istore_n C [(3, .int (zI 0)), (0, .ref y), (1, .int (zI row)), (2, .int (zI q))] dX6_swap_30 (by decide) rfl ?_
        refine y_iconst C dX6_swap_31 ?_
        refine y_istore C [(4, .int (zI 0)), (3, .int (zI 0)), (0, .ref y), (1, .int (zI row)), (2, .int (zI q))] dX6_swap_32 (by decide) rfl ?_
        refine y_lsub C [2, 3, 4, 1, 0] (lv' := [(0, .ref y), (1, .int (zI row)), (2, .int (zI q)), (3, .int (zI 0)), (4, .int (zI 0))]) rfl ?_
        suffices hL34 : ∀ (fu : Nat) (n : Int) (c : Int), (0 ≤ c ∧ c ≤ 32) → (n = zcnt (fun k => ¬ zp u row k = zp u q k) c ∧ 0 ≤ n ∧ n ≤ c) → (32 - c).toNat < fu → K 0 0 [cO y 6 [.ref ms, .ref ma, .ref mp, .int (zI np2_11), .ref mk, .int (zI ik), .ref md, .int (zI ml), .ref me, .ref mo, .int (zI sp), .int (zI wr), .int (zI tp), .int (zI bt), .int (zI lf), .int (zI rg), .int (zI dp)], cI cA ms 800 u, cI cA ma 800 av2_15, cI cA mp 3200 past2_10] [(0, .ref y), (1, .int (zI row)), (2, .int (zI q)), (3, .int (zI n)), (4, .int (zI c))] 34 [] from hL34 _ 0 0 (by omega) (by exact ⟨rfl, by omega, by omega⟩) (Nat.lt_succ_self _)
        intro f34
        induction f34 with
        | zero => exact fun _ _ _ _ hf => absurd hf (Nat.not_lt_zero _)
        | succ f34 ih34 =>
          intro n c hc hn hf34
          refine y_iload C 4 dX6_swap_34 rfl ?_
          refine y_bipush C dX6_swap_36 (by decide +kernel) ?_
          refine y_icmp_ge C 72 dX6_swap_38 (by decide) ⟨⟨by omega, by omega⟩, ⟨by omega, by omega⟩⟩ (fun c_17 => ?_) (fun c_17 => ?_)
          · obtain rfl : c = 32 := by omega
            refine y_bipush C dX6_swap_72 (by decide +kernel) ?_
            refine y_istore C [(4, .int (zI 32)), (0, .ref y), (1, .int (zI row)), (2, .int (zI q)), (3, .int (zI n))] dX6_swap_74 (by decide) rfl ?_
            refine y_lsub C [1, 2, 3, 4, 0] (lv' := [(0, .ref y), (1, .int (zI row)), (2, .int (zI q)), (3, .int (zI n)), (4, .int (zI 32))]) rfl ?_
            suffices hL76 : ∀ (fu : Nat) (pt : Int) (u1 : Int → Int), (pt = 32 ∨ pt = 288 ∨ pt = 544 ∨ pt = 800) → (∀ j : Int, 0 ≤ j → j < 800 → u1 j = if j < pt then swapU u row q j else u j) → (900 - pt).toNat < fu → K 0 0 [cO y 6 [.ref ms, .ref ma, .ref mp, .int (zI np2_11), .ref mk, .int (zI ik), .ref md, .int (zI ml), .ref me, .ref mo, .int (zI sp), .int (zI wr), .int (zI tp), .int (zI bt), .int (zI lf), .int (zI rg), .int (zI dp)], cI cA ms 800 u1, cI cA ma 800 av2_15, cI cA mp 3200 past2_10] [(0, .ref y), (1, .int (zI row)), (2, .int (zI q)), (3, .int (zI n)), (4, .int (zI pt))] 76 [] from hL76 _ 32 u (by omega) (by intro j a b; split; (exact (swapU_lo (by omega)).symm); rfl) (Nat.lt_succ_self _)
            intro f76
            induction f76 with
            | zero => exact fun _ _ _ _ hf => absurd hf (Nat.not_lt_zero _)
            | succ f76 ih76 =>
              intro pt u1 hpt hu1 hf76
              refine y_iload C 4 dX6_swap_76 rfl ?_
              refine y_sipush C dX6_swap_78 (by decide +kernel) ?_
              refine y_icmp_ge C 165 dX6_swap_81 (by decide) ⟨⟨by omega, by omega⟩, ⟨by omega, by omega⟩⟩ (fun c_18 => ?_) (fun c_18 => ?_)
              · refine y_iload_n C 3 dX6_swap_165 rfl ?_
                refine hret _ _ _ _ dX6_swap_166 ⟨u1, av2_15, past2_10, np2_11, rfl, ?_⟩
                show (n = ansSwap u row q) ∧ (∀ j : Int, 0 ≤ j → j < 800 → u1 j = vI (vSwap row q) (swapU u row q) u j) ∧ (∀ j : Int, 0 ≤ j → j < 800 * np2_11 → past2_10 j = vI (vSwap row q) (recP past u np) past j) ∧ (np2_11 = vI (vSwap row q) (nxS np) np)
                obtain rfl : pt = 800 := by omega
                have hV : vSwap row q := by omega
                refine ⟨?_, by rw [vI_t hV]; exact fun j a b => (hu1 j a b).trans (if_pos b), by rw [vI_t hV]; exact hr1, by rw [vI_t hV]; exact hr2⟩
                unfold ansSwap
                rw [vI_t hV]
                exact hn.1
              · refine y_iconst C dX6_swap_84 ?_
                refine y_istore C [(5, .int (zI 0)), (0, .ref y), (1, .int (zI row)), (2, .int (zI q)), (3, .int (zI n)), (4, .int (zI pt))] dX6_swap_85 (by decide) rfl ?_
                refine y_lsub C [1, 2, 3, 4, 5, 0] (lv' := [(0, .ref y), (1, .int (zI row)), (2, .int (zI q)), (3, .int (zI n)), (4, .int (zI pt)), (5, .int (zI 0))]) rfl ?_
                suffices hL87 : ∀ (fu : Nat) (c2 : Int) (u3 : Int → Int), (0 ≤ c2 ∧ c2 ≤ 32) → (∀ j : Int, 0 ≤ j → j < 800 → u3 j = if j < pt ∨ (j < pt + 256 ∧ j % 32 < c2) then swapU u row q j else u j) → (32 - c2).toNat < fu → K 0 0 [cO y 6 [.ref ms, .ref ma, .ref mp, .int (zI np2_11), .ref mk, .int (zI ik), .ref md, .int (zI ml), .ref me, .ref mo, .int (zI sp), .int (zI wr), .int (zI tp), .int (zI bt), .int (zI lf), .int (zI rg), .int (zI dp)], cI cA ms 800 u3, cI cA ma 800 av2_15, cI cA mp 3200 past2_10] [(0, .ref y), (1, .int (zI row)), (2, .int (zI q)), (3, .int (zI n)), (4, .int (zI pt)), (5, .int (zI c2))] 87 [] from hL87 _ 0 u1 (by omega) (by intro j a b; rw [hu1 j a b]; (repeat' split) <;> first | rfl | (exfalso; omega)) (Nat.lt_succ_self _)
                intro f87
                induction f87 with
                | zero => exact fun _ _ _ _ hf => absurd hf (Nat.not_lt_zero _)
                | succ f87 ih87 =>
                  intro c2 u3 hc2 hu3 hf87
                  refine y_iload C 5 dX6_swap_87 rfl ?_
                  refine y_bipush C dX6_swap_89 (by decide +kernel) ?_
                  refine y_icmp_ge C 156 dX6_swap_91 (by decide) ⟨⟨by omega, by omega⟩, ⟨by omega, by omega⟩⟩ (fun c_19 => ?_) (fun c_19 => ?_)
                  · refine y_iincW C 4 [(4, .int (zI (pt + 256))), (0, .ref y), (1, .int (zI row)), (2, .int (zI q)), (3, .int (zI n)), (5, .int (zI c2))] dX6_swap_156 rfl (by decide) rfl ?_
                    refine y_goto C 76 dX6_swap_162 (by decide) ?_
                    refine y_lsub C [1, 2, 3, 4, 0] (lv' := [(0, .ref y), (1, .int (zI row)), (2, .int (zI q)), (3, .int (zI n)), (4, .int (zI (pt + 256)))]) rfl ?_
                    exact ih76 (pt + 256) u3 (by omega) (by intro j a b; rw [hu3 j a b]; (repeat' split) <;> first | rfl | (exfalso; omega)) (by omega)
                  · refine y_aload_n C 0 dX6_swap_94 rfl ?_
                    refine y_get C fg_X6_7 0 dX6_swap_95 rfl rfl ?_
                    refine y_iload C 4 dX6_swap_98 rfl ?_
                    refine y_iload_n C 1 dX6_swap_100 rfl ?_
                    refine y_iload C 5 dX6_swap_101 rfl ?_
                    refine y_pcalls C (m_X6_place (l := l) (D := D) (cA := cA) (cB := cB) (rr := row) (cc := c2) ) lk_X6_35 [] [0, 1, 2, 3] [0, 1, 2, 3] ⟨rfl, rfl, by decide, by decide, by decide⟩ ⟨rfl, by decide⟩ dX6_swap_103 rfl rfl ⟨by exact Nat.le_of_ble_eq_true rfl, by exact Nat.le_of_ble_eq_true rfl, rfl, rfl, by exact Nat.le_of_ble_eq_true rfl, by exact Nat.le_of_ble_eq_true rfl, by exact Nat.le_of_ble_eq_true rfl⟩ (fun r_21 h_20 => ?_)
                    refine y_iadd C dX6_swap_106 ?_
                    refine y_top (show (pt + r_21) = (pt + (row * 32 + c2)) from by omega) ?_
                    refine y_aload_n C 0 dX6_swap_107 rfl ?_
                    refine y_get C fg_X6_13 0 dX6_swap_108 rfl rfl ?_
                    refine y_iload C 4 dX6_swap_111 rfl ?_
                    refine y_iload_n C 2 dX6_swap_113 rfl ?_
                    refine y_iload C 5 dX6_swap_114 rfl ?_
                    refine y_pcalls C (m_X6_place (l := l) (D := D) (cA := cA) (cB := cB) (rr := q) (cc := c2) ) lk_X6_35 [] [0, 1, 2, 3] [0, 1, 2, 3] ⟨rfl, rfl, by decide, by decide, by decide⟩ ⟨rfl, by decide⟩ dX6_swap_116 rfl rfl ⟨by exact Nat.le_of_ble_eq_true rfl, by exact Nat.le_of_ble_eq_true rfl, rfl, rfl, by exact Nat.le_of_ble_eq_true rfl, by exact Nat.le_of_ble_eq_true rfl, by exact Nat.le_of_ble_eq_true rfl⟩ (fun r_23 h_22 => ?_)
                    refine y_iadd C dX6_swap_119 ?_
                    refine y_top (show (pt + r_23) = (pt + (q * 32 + c2)) from by omega) ?_
                    refine y_iald C 2 0 dX6_swap_120 rfl rfl ⟨by omega, by omega, by omega⟩ ?_
                    refine y_iast C 1 0 [cO y 6 [.ref ms, .ref ma, .ref mp, .int (zI np2_11), .ref mk, .int (zI ik), .ref md, .int (zI ml), .ref me, .ref mo, .int (zI sp), .int (zI wr), .int (zI tp), .int (zI bt), .int (zI lf), .int (zI rg), .int (zI dp)], cI cA ms 800 (zU u3 (pt + (row * 32 + c2)) (av2_15 (pt + (q * 32 + c2)))), cI cA ma 800 av2_15, cI cA mp 3200 past2_10] dX6_swap_121 rfl rfl ⟨by omega, by omega, by omega⟩ rfl ?_
                    refine y_aload_n C 0 dX6_swap_122 rfl ?_
                    refine y_get C fg_X6_7 0 dX6_swap_123 rfl rfl ?_
                    refine y_iload C 4 dX6_swap_126 rfl ?_
                    refine y_iload_n C 2 dX6_swap_128 rfl ?_
                    refine y_iload C 5 dX6_swap_129 rfl ?_
                    refine y_pcalls C (m_X6_place (l := l) (D := D) (cA := cA) (cB := cB) (rr := q) (cc := c2) ) lk_X6_35 [] [0, 1, 2, 3] [0, 1, 2, 3] ⟨rfl, rfl, by decide, by decide, by decide⟩ ⟨rfl, by decide⟩ dX6_swap_131 rfl rfl ⟨by exact Nat.le_of_ble_eq_true rfl, by exact Nat.le_of_ble_eq_true rfl, rfl, rfl, by exact Nat.le_of_ble_eq_true rfl, by exact Nat.le_of_ble_eq_true rfl, by exact Nat.le_of_ble_eq_true rfl⟩ (fun r_25 h_24 => ?_)
                    refine y_iadd C dX6_swap_134 ?_
                    refine y_top (show (pt + r_25) = (pt + (q * 32 + c2)) from by omega) ?_
                    refine y_aload_n C 0 dX6_swap_135 rfl ?_
                    refine y_get C fg_X6_13 0 dX6_swap_136 rfl rfl ?_
                    refine y_iload C 4 dX6_swap_139 rfl ?_
                    refine y_iload_n C 1 dX6_swap_141 rfl ?_
                    refine y_iload C 5 dX6_swap_142 rfl ?_
                    refine y_pcalls C (m_X6_place (l := l) (D := D) (cA := cA) (cB := cB) (rr := row) (cc := c2) ) lk_X6_35 [] [0, 1, 2, 3] [0, 1, 2, 3] ⟨rfl, rfl, by decide, by decide, by decide⟩ ⟨rfl, by decide⟩ dX6_swap_144 rfl rfl ⟨by exact Nat.le_of_ble_eq_true rfl, by exact Nat.le_of_ble_eq_true rfl, rfl, rfl, by exact Nat.le_of_ble_eq_true rfl, by exact Nat.le_of_ble_eq_true rfl, by exact Nat.le_of_ble_eq_true rfl⟩ (fun r_27 h_26 => ?_)
                    refine y_iadd C dX6_swap_147 ?_
                    refine y_top (show (pt + r_27) = (pt + (row * 32 + c2)) from by omega) ?_
                    refine y_iald C 2 0 dX6_swap_148 rfl rfl ⟨by omega, by omega, by omega⟩ ?_
                    refine y_iast C 1 0 [cO y 6 [.ref ms, .ref ma, .ref mp, .int (zI np2_11), .ref mk, .int (zI ik), .ref md, .int (zI ml), .ref me, .ref mo, .int (zI sp), .int (zI wr), .int (zI tp), .int (zI bt), .int (zI lf), .int (zI rg), .int (zI dp)], cI cA ms 800 (zU (zU u3 (pt + (row * 32 + c2)) (av2_15 (pt + (q * 32 + c2)))) (pt + (q * 32 + c2)) (av2_15 (pt + (row * 32 + c2)))), cI cA ma 800 av2_15, cI cA mp 3200 past2_10] dX6_swap_149 rfl rfl ⟨by omega, by omega, by omega⟩ rfl ?_
                    refine y_iinc C 5 [(5, .int (zI (c2 + 1))), (0, .ref y), (1, .int (zI row)), (2, .int (zI q)), (3, .int (zI n)), (4, .int (zI pt))] dX6_swap_150 rfl (by decide) rfl ?_
                    refine y_goto C 87 dX6_swap_153 (by decide) ?_
                    refine y_lsub C [1, 2, 3, 4, 5, 0] (lv' := [(0, .ref y), (1, .int (zI row)), (2, .int (zI q)), (3, .int (zI n)), (4, .int (zI pt)), (5, .int (zI (c2 + 1)))]) rfl ?_
                    exact ih87 (c2 + 1) (zU (zU u3 (pt + (row * 32 + c2)) (av2_15 (pt + (q * 32 + c2)))) (pt + (q * 32 + c2)) (av2_15 (pt + (row * 32 + c2)))) (by omega) (by exact swap_step ⟨by omega, by omega⟩ ⟨by omega, by omega⟩ (by omega) ⟨by omega, by omega⟩ (by omega) ha hu3) (by omega)
          · refine y_iload_n C 3 dX6_swap_41 rfl ?_
            refine y_aload_n C 0 dX6_swap_42 rfl ?_
            refine y_iload_n C 1 dX6_swap_43 rfl ?_
            refine y_iload C 4 dX6_swap_44 rfl ?_
            refine y_pcall C (m_X6_planeOf (l := l) (D := D) (cA := cA) (cB := cB) (y := y) (ms := ms) (ma := ma) (mp := mp) (mk := mk) (md := md) (me := me) (mo := mo) (np := np2_11) (ik := ik) (ml := ml) (sp := sp) (wr := wr) (tp := tp) (bt := bt) (lf := lf) (rg := rg) (dp := dp) (u := u) (row := row) (c := c) (by first | assumption | omega | exact ⟨by omega, by omega⟩) (by first | assumption | omega | exact ⟨by omega, by omega⟩) (by first | assumption | omega | exact ⟨by omega, by omega⟩)) lk_X6_43 [0, 1] [2, 3] [2, 3, 0, 1] ⟨rfl, rfl, by decide, by decide, by decide⟩ ⟨rfl, by decide⟩ rfl rfl dX6_swap_46 rfl rfl ⟨by exact Nat.le_of_ble_eq_true rfl, by exact Nat.le_of_ble_eq_true rfl, rfl, rfl, by exact Nat.le_of_ble_eq_true rfl, by exact Nat.le_of_ble_eq_true rfl, by exact Nat.le_of_ble_eq_true rfl⟩ (fun r_29 h_28 => ?_)
            have hz1 := h_28
            refine y_aload_n C 0 dX6_swap_49 rfl ?_
            refine y_iload_n C 2 dX6_swap_50 rfl ?_
            refine y_iload C 4 dX6_swap_51 rfl ?_
            refine y_pcall C (m_X6_planeOf (l := l) (D := D) (cA := cA) (cB := cB) (y := y) (ms := ms) (ma := ma) (mp := mp) (mk := mk) (md := md) (me := me) (mo := mo) (np := np2_11) (ik := ik) (ml := ml) (sp := sp) (wr := wr) (tp := tp) (bt := bt) (lf := lf) (rg := rg) (dp := dp) (u := u) (row := q) (c := c) (by first | assumption | omega | exact ⟨by omega, by omega⟩) (by first | assumption | omega | exact ⟨by omega, by omega⟩) (by first | assumption | omega | exact ⟨by omega, by omega⟩)) lk_X6_43 [0, 1] [2, 3] [2, 3, 0, 1] ⟨rfl, rfl, by decide, by decide, by decide⟩ ⟨rfl, by decide⟩ rfl rfl dX6_swap_53 rfl rfl ⟨by exact Nat.le_of_ble_eq_true rfl, by exact Nat.le_of_ble_eq_true rfl, rfl, rfl, by exact Nat.le_of_ble_eq_true rfl, by exact Nat.le_of_ble_eq_true rfl, by exact Nat.le_of_ble_eq_true rfl⟩ (fun r_31 h_30 => ?_)
            have hz2 := h_30
            refine y_icmp_eq C 63 dX6_swap_56 (by decide) ⟨⟨by omega, by omega⟩, ⟨by omega, by omega⟩⟩ (fun c_32 => ?_) (fun c_32 => ?_)
            · refine y_iconst C dX6_swap_63 ?_
              refine y_iadd C dX6_swap_64 ?_
              refine y_istore_n C [(3, .int (zI (n + 0))), (0, .ref y), (1, .int (zI row)), (2, .int (zI q)), (4, .int (zI c))] dX6_swap_65 (by decide) rfl ?_
              refine y_iinc C 4 [(4, .int (zI (c + 1))), (3, .int (zI (n + 0))), (0, .ref y), (1, .int (zI row)), (2, .int (zI q))] dX6_swap_66 rfl (by decide) rfl ?_
              refine y_goto C 34 dX6_swap_69 (by decide) ?_
              refine y_lsub C [2, 3, 4, 1, 0] (lv' := [(0, .ref y), (1, .int (zI row)), (2, .int (zI q)), (3, .int (zI (n + 0))), (4, .int (zI (c + 1)))]) rfl ?_
              exact ih34 (n + 0) (c + 1) (by omega) (by refine ⟨?_, by omega, by omega⟩; exact zcnt_step (by omega) hn.1 (by omega)) (by omega)
            · refine y_iconst C dX6_swap_59 ?_
              refine y_goto C 64 dX6_swap_60 (by decide) ?_
              refine y_iadd C dX6_swap_64 ?_
              refine y_istore_n C [(3, .int (zI (n + 1))), (0, .ref y), (1, .int (zI row)), (2, .int (zI q)), (4, .int (zI c))] dX6_swap_65 (by decide) rfl ?_
              refine y_iinc C 4 [(4, .int (zI (c + 1))), (3, .int (zI (n + 1))), (0, .ref y), (1, .int (zI row)), (2, .int (zI q))] dX6_swap_66 rfl (by decide) rfl ?_
              refine y_goto C 34 dX6_swap_69 (by decide) ?_
              refine y_lsub C [2, 3, 4, 1, 0] (lv' := [(0, .ref y), (1, .int (zI row)), (2, .int (zI q)), (3, .int (zI (n + 1))), (4, .int (zI (c + 1)))]) rfl ?_
              exact ih34 (n + 1) (c + 1) (by omega) (by refine ⟨?_, by omega, by omega⟩; exact zcnt_step (by omega) hn.1 (by omega)) (by omega)
      · refine y_iconst C dX6_swap_19 ?_
        refine hret _ _ _ _ dX6_swap_20 ⟨u, av, past, np, rfl, ?_⟩
        show ((-1) = ansSwap u row q) ∧ (∀ j : Int, 0 ≤ j → j < 800 → u j = vI (vSwap row q) (swapU u row q) u j) ∧ (∀ j : Int, 0 ≤ j → j < 800 * np → past j = vI (vSwap row q) (recP past u np) past j) ∧ (np = vI (vSwap row q) (nxS np) np)
        have hV : ¬ (vSwap row q) := by omega
        exact ⟨by unfold ansSwap; rw [vI_f hV], by rw [vI_f hV]; exact fun _ _ _ => rfl, by rw [vI_f hV]; exact fun _ _ _ => rfl, by rw [vI_f hV]⟩

set_option maxHeartbeats 4000000 in
set_option maxRecDepth 100000 in
theorem m_X6_turn {l : Launch} {D : va_G} {cA cB : ClassId} {y ms ma mp mk md me mo : Nat} {np ik ml sp wr tp bt lf rg dp : Int} {u av past sn : Int → Int} {row : Int} (hzrow : zR row) (hnp : 0 ≤ np ∧ np ≤ 4) (hU : UK u) : MI l yX6_turn cX6_turn 4 .int { frames := 6, cells := 0, slots := 0, locals := 144 } D (zT cA cB) [.ref y, .int (zI row)] [cO y 6 [.ref ms, .ref ma, .ref mp, .int (zI np), .ref mk, .int (zI ik), .ref md, .int (zI ml), .ref me, .ref mo, .int (zI sp), .int (zI wr), .int (zI tp), .int (zI bt), .int (zI lf), .int (zI rg), .int (zI dp)], cI cA ms 800 u, cI cA ma 800 av, cI cA mp 3200 past, cI cA me 32 sn] (fun r w => ∃ (u2 : Int → Int), ∃ (av2 : Int → Int), ∃ (past2 : Int → Int), ∃ (np2 : Int), ∃ (sn2 : Int → Int), w = [cO y 6 [.ref ms, .ref ma, .ref mp, .int (zI np2), .ref mk, .int (zI ik), .ref md, .int (zI ml), .ref me, .ref mo, .int (zI sp), .int (zI wr), .int (zI tp), .int (zI bt), .int (zI lf), .int (zI rg), .int (zI dp)], cI cA ms 800 u2, cI cA ma 800 av2, cI cA mp 3200 past2, cI cA me 32 sn2] ∧ (r = ansTurn u row) ∧ (∀ j : Int, 0 ≤ j → j < 800 → u2 j = vI (vRow row) (turnU u row) u j) ∧ (∀ j : Int, 0 ≤ j → j < 800 * np2 → past2 j = vI (vRow row) (recP past u np) past j) ∧ (np2 = vI (vRow row) (nxS np) np)) := by
  refine MI.of RX6 ⟨rfl, by decide +kernel⟩ (Or.inl rfl) (Nat.le_of_ble_eq_true rfl) (fun h => by cases h) ?_
  intro K C hret
  change K 0 0 _ [(0, .ref y), (1, .int (zI row))] 0 []
  have hzrow1 := hzrow.1
  have hzrow2 := hzrow.2
  refine y_iload_n C 1 dX6_turn_0 rfl ?_
  refine y_pcalls C (m_X6_isRow (l := l) (D := D) (cA := cA) (cB := cB) (xx := row) (by first | assumption | exact ⟨by omega, by omega⟩)) lk_X6_78 [] [0, 1, 2, 3, 4] [0, 1, 2, 3, 4] ⟨rfl, rfl, by decide, by decide, by decide⟩ ⟨rfl, by decide⟩ dX6_turn_1 rfl rfl ⟨by exact Nat.le_of_ble_eq_true rfl, by exact Nat.le_of_ble_eq_true rfl, rfl, rfl, by exact Nat.le_of_ble_eq_true rfl, by exact Nat.le_of_ble_eq_true rfl, by exact Nat.le_of_ble_eq_true rfl⟩ (fun r_2 h_1 => ?_)
  refine y_if_ne C 9 dX6_turn_4 (by decide) ⟨by omega, by omega⟩ (fun c_3 => ?_) (fun c_3 => ?_)
  · refine y_aload_n C 0 dX6_turn_9 rfl ?_
    refine y_mcallv C (m_X6_records (l := l) (D := D) (cA := cA) (cB := cB) (y := y) (ms := ms) (ma := ma) (mp := mp) (mk := mk) (md := md) (me := me) (mo := mo) (np := np) (ik := ik) (ml := ml) (sp := sp) (wr := wr) (tp := tp) (bt := bt) (lf := lf) (rg := rg) (dp := dp) (u := u) (past := past) (by first | assumption | omega | exact ⟨by omega, by omega⟩)) lk_X6_81 [0, 1, 3] [2, 4] ⟨rfl, rfl, by decide, by decide, by decide⟩ (jb := 0) rfl rfl dX6_turn_10 rfl rfl ⟨by exact Nat.le_of_ble_eq_true rfl, by exact Nat.le_of_ble_eq_true rfl, rfl, rfl, by exact Nat.le_of_ble_eq_true rfl, by exact Nat.le_of_ble_eq_true rfl, by exact Nat.le_of_ble_eq_true rfl⟩ (fun w_8 h_4 => ?_)
    obtain ⟨past2_6, np2_7, rfl, h_4⟩ := h_4
    refine ⟨[2, 3, 0, 4, 1], [cO y 6 [.ref ms, .ref ma, .ref mp, .int (zI np2_7), .ref mk, .int (zI ik), .ref md, .int (zI ml), .ref me, .ref mo, .int (zI sp), .int (zI wr), .int (zI tp), .int (zI bt), .int (zI lf), .int (zI rg), .int (zI dp)], cI cA ms 800 u, cI cA ma 800 av, cI cA mp 3200 past2_6, cI cA me 32 sn], ⟨rfl, by decide⟩, ?_⟩
    obtain ⟨hr1, hr2⟩ := h_4
    refine y_aload_n C 0 dX6_turn_13 rfl ?_
    refine y_mcallv C (m_X6_putAside (l := l) (D := D) (cA := cA) (cB := cB) (y := y) (ms := ms) (ma := ma) (mp := mp) (mk := mk) (md := md) (me := me) (mo := mo) (np := np2_7) (ik := ik) (ml := ml) (sp := sp) (wr := wr) (tp := tp) (bt := bt) (lf := lf) (rg := rg) (dp := dp) (u := u) (av := av) ) lk_X6_84 [0, 1, 2] [3, 4] ⟨rfl, rfl, by decide, by decide, by decide⟩ (jb := 0) rfl rfl dX6_turn_14 rfl rfl ⟨by exact Nat.le_of_ble_eq_true rfl, by exact Nat.le_of_ble_eq_true rfl, rfl, rfl, by exact Nat.le_of_ble_eq_true rfl, by exact Nat.le_of_ble_eq_true rfl, by exact Nat.le_of_ble_eq_true rfl⟩ (fun w_12 h_9 => ?_)
    obtain ⟨av2_11, rfl, h_9⟩ := h_9
    refine ⟨[2, 3, 4, 0, 1], [cO y 6 [.ref ms, .ref ma, .ref mp, .int (zI np2_7), .ref mk, .int (zI ik), .ref md, .int (zI ml), .ref me, .ref mo, .int (zI sp), .int (zI wr), .int (zI tp), .int (zI bt), .int (zI lf), .int (zI rg), .int (zI dp)], cI cA ms 800 u, cI cA ma 800 av2_11, cI cA mp 3200 past2_6, cI cA me 32 sn], ⟨rfl, by decide⟩, ?_⟩
    have ha := h_9
    refine y_bipush C dX6_turn_17 (by decide +kernel) ?_
    refine y_istore_n C [(2, .int (zI 32)), (0, .ref y), (1, .int (zI row))] dX6_turn_19 (by decide) rfl ?_
    refine y_lsub C [1, 2, 0] (lv' := [(0, .ref y), (1, .int (zI row)), (2, .int (zI 32))]) rfl ?_
    suffices hL20 : ∀ (fu : Nat) (pt : Int) (u1 : Int → Int), (pt = 32 ∨ pt = 288 ∨ pt = 544 ∨ pt = 800) → (∀ j : Int, 0 ≤ j → j < 800 → u1 j = if j < pt then turnU u row j else u j) → (900 - pt).toNat < fu → K 0 0 [cO y 6 [.ref ms, .ref ma, .ref mp, .int (zI np2_7), .ref mk, .int (zI ik), .ref md, .int (zI ml), .ref me, .ref mo, .int (zI sp), .int (zI wr), .int (zI tp), .int (zI bt), .int (zI lf), .int (zI rg), .int (zI dp)], cI cA ms 800 u1, cI cA ma 800 av2_11, cI cA mp 3200 past2_6, cI cA me 32 sn] [(0, .ref y), (1, .int (zI row)), (2, .int (zI pt))] 20 [] from hL20 _ 32 u (by omega) (by intro j a b; split; (rw [turnU_at ⟨by omega, by omega⟩ a b, if_neg (by omega)]); rfl) (Nat.lt_succ_self _)
    intro f20
    induction f20 with
    | zero => exact fun _ _ _ _ hf => absurd hf (Nat.not_lt_zero _)
    | succ f20 ih20 =>
      intro pt u1 hpt hu1 hf20
      refine y_iload_n C 2 dX6_turn_20 rfl ?_
      refine y_sipush C dX6_turn_21 (by decide +kernel) ?_
      refine y_icmp_ge C 77 dX6_turn_24 (by decide) ⟨⟨by omega, by omega⟩, ⟨by omega, by omega⟩⟩ (fun c_13 => ?_) (fun c_13 => ?_)
      · obtain rfl : pt = 800 := by omega
        have hu4 : ∀ j : Int, 0 ≤ j → j < 800 → u1 j = turnU u row j := fun j a b => (hu1 j a b).trans (if_pos b)
        have hUt := UK_turn hU (row := row) ⟨by omega, by omega⟩
        refine y_aload_n C 0 dX6_turn_77 rfl ?_
        refine y_iload_n C 1 dX6_turn_78 rfl ?_
        refine y_mcalli C (m_X6_rightOnes (l := l) (D := D) (cA := cA) (cB := cB) (y := y) (ms := ms) (ma := ma) (mp := mp) (mk := mk) (md := md) (me := me) (mo := mo) (np := np2_7) (ik := ik) (ml := ml) (sp := sp) (wr := wr) (tp := tp) (bt := bt) (lf := lf) (rg := rg) (dp := dp) (u := u1) (sn := sn) (row := row) (by first | assumption | omega | exact ⟨by omega, by omega⟩) (by exact hUt.c hu4)) lk_X6_74 [0, 1, 4] [2, 3] ⟨rfl, rfl, by decide, by decide, by decide⟩ (jb := 0) rfl rfl dX6_turn_79 rfl rfl ⟨by exact Nat.le_of_ble_eq_true rfl, by exact Nat.le_of_ble_eq_true rfl, rfl, rfl, by exact Nat.le_of_ble_eq_true rfl, by exact Nat.le_of_ble_eq_true rfl, by exact Nat.le_of_ble_eq_true rfl⟩ (fun r_15 w_17 h_14 => ?_)
        obtain ⟨sn2_16, rfl, h_14⟩ := h_14
        refine ⟨[2, 3, 0, 1, 4], [cO y 6 [.ref ms, .ref ma, .ref mp, .int (zI np2_7), .ref mk, .int (zI ik), .ref md, .int (zI ml), .ref me, .ref mo, .int (zI sp), .int (zI wr), .int (zI tp), .int (zI bt), .int (zI lf), .int (zI rg), .int (zI dp)], cI cA ms 800 u1, cI cA ma 800 av2_11, cI cA mp 3200 past2_6, cI cA me 32 sn2_16], ⟨rfl, by decide⟩, ?_⟩
        have hv := h_14
        refine hret _ _ _ _ dX6_turn_82 ⟨u1, av2_11, past2_6, np2_7, sn2_16, rfl, ?_⟩
        show (r_15 = ansTurn u row) ∧ (∀ j : Int, 0 ≤ j → j < 800 → u1 j = vI (vRow row) (turnU u row) u j) ∧ (∀ j : Int, 0 ≤ j → j < 800 * np2_7 → past2_6 j = vI (vRow row) (recP past u np) past j) ∧ (np2_7 = vI (vRow row) (nxS np) np)
        have hV : vRow row := by omega
        refine ⟨?_, by rw [vI_t hV]; exact hu4, by rw [vI_t hV]; exact hr1, by rw [vI_t hV]; exact hr2⟩
        unfold ansTurn
        rw [vI_t hV]
        rw [hv.1.1]
        exact rgtZ_congr hu4 ((hUt.c hu4).s.1.1) hV
      · refine y_iconst C dX6_turn_27 ?_
        refine y_istore_n C [(3, .int (zI 0)), (0, .ref y), (1, .int (zI row)), (2, .int (zI pt))] dX6_turn_28 (by decide) rfl ?_
        refine y_lsub C [1, 2, 3, 0] (lv' := [(0, .ref y), (1, .int (zI row)), (2, .int (zI pt)), (3, .int (zI 0))]) rfl ?_
        suffices hL29 : ∀ (fu : Nat) (c2 : Int) (u3 : Int → Int), (0 ≤ c2 ∧ c2 ≤ 32) → (∀ j : Int, 0 ≤ j → j < 800 → u3 j = if j < pt ∨ (j < pt + 256 ∧ j % 32 < c2) then turnU u row j else u j) → (32 - c2).toNat < fu → K 0 0 [cO y 6 [.ref ms, .ref ma, .ref mp, .int (zI np2_7), .ref mk, .int (zI ik), .ref md, .int (zI ml), .ref me, .ref mo, .int (zI sp), .int (zI wr), .int (zI tp), .int (zI bt), .int (zI lf), .int (zI rg), .int (zI dp)], cI cA ms 800 u3, cI cA ma 800 av2_11, cI cA mp 3200 past2_6, cI cA me 32 sn] [(0, .ref y), (1, .int (zI row)), (2, .int (zI pt)), (3, .int (zI c2))] 29 [] from hL29 _ 0 u1 (by omega) (by intro j a b; rw [hu1 j a b]; (repeat' split) <;> first | rfl | (exfalso; omega)) (Nat.lt_succ_self _)
        intro f29
        induction f29 with
        | zero => exact fun _ _ _ _ hf => absurd hf (Nat.not_lt_zero _)
        | succ f29 ih29 =>
          intro c2 u3 hc2 hu3 hf29
          refine y_iload_n C 3 dX6_turn_29 rfl ?_
          refine y_bipush C dX6_turn_30 (by decide +kernel) ?_
          refine y_icmp_ge C 68 dX6_turn_32 (by decide) ⟨⟨by omega, by omega⟩, ⟨by omega, by omega⟩⟩ (fun c_18 => ?_) (fun c_18 => ?_)
          · refine y_iincW C 2 [(2, .int (zI (pt + 256))), (0, .ref y), (1, .int (zI row)), (3, .int (zI c2))] dX6_turn_68 rfl (by decide) rfl ?_
            refine y_goto C 20 dX6_turn_74 (by decide) ?_
            refine y_lsub C [1, 2, 0] (lv' := [(0, .ref y), (1, .int (zI row)), (2, .int (zI (pt + 256)))]) rfl ?_
            exact ih20 (pt + 256) u3 (by omega) (by intro j a b; rw [hu3 j a b]; (repeat' split) <;> first | rfl | (exfalso; omega)) (by omega)
          · refine y_aload_n C 0 dX6_turn_35 rfl ?_
            refine y_get C fg_X6_7 0 dX6_turn_36 rfl rfl ?_
            refine y_iload_n C 2 dX6_turn_39 rfl ?_
            refine y_iload_n C 1 dX6_turn_40 rfl ?_
            refine y_iload_n C 3 dX6_turn_41 rfl ?_
            refine y_pcalls C (m_X6_place (l := l) (D := D) (cA := cA) (cB := cB) (rr := row) (cc := c2) ) lk_X6_35 [] [0, 1, 2, 3, 4] [0, 1, 2, 3, 4] ⟨rfl, rfl, by decide, by decide, by decide⟩ ⟨rfl, by decide⟩ dX6_turn_42 rfl rfl ⟨by exact Nat.le_of_ble_eq_true rfl, by exact Nat.le_of_ble_eq_true rfl, rfl, rfl, by exact Nat.le_of_ble_eq_true rfl, by exact Nat.le_of_ble_eq_true rfl, by exact Nat.le_of_ble_eq_true rfl⟩ (fun r_20 h_19 => ?_)
            refine y_iadd C dX6_turn_45 ?_
            refine y_top (show (pt + r_20) = (pt + (row * 32 + c2)) from by omega) ?_
            refine y_aload_n C 0 dX6_turn_46 rfl ?_
            refine y_get C fg_X6_13 0 dX6_turn_47 rfl rfl ?_
            refine y_iload_n C 2 dX6_turn_50 rfl ?_
            refine y_iload_n C 1 dX6_turn_51 rfl ?_
            refine y_bipush C dX6_turn_52 (by decide +kernel) ?_
            refine y_iload_n C 3 dX6_turn_54 rfl ?_
            refine y_isub C dX6_turn_55 ?_
            refine y_pcalls C (m_X6_place (l := l) (D := D) (cA := cA) (cB := cB) (rr := row) (cc := 31 - c2) ) lk_X6_35 [] [0, 1, 2, 3, 4] [0, 1, 2, 3, 4] ⟨rfl, rfl, by decide, by decide, by decide⟩ ⟨rfl, by decide⟩ dX6_turn_56 rfl rfl ⟨by exact Nat.le_of_ble_eq_true rfl, by exact Nat.le_of_ble_eq_true rfl, rfl, rfl, by exact Nat.le_of_ble_eq_true rfl, by exact Nat.le_of_ble_eq_true rfl, by exact Nat.le_of_ble_eq_true rfl⟩ (fun r_22 h_21 => ?_)
            refine y_iadd C dX6_turn_59 ?_
            refine y_top (show (pt + r_22) = (pt + (row * 32 + (31 - c2))) from by omega) ?_
            refine y_iald C 2 0 dX6_turn_60 rfl rfl ⟨by omega, by omega, by omega⟩ ?_
            refine y_iast C 1 0 [cO y 6 [.ref ms, .ref ma, .ref mp, .int (zI np2_7), .ref mk, .int (zI ik), .ref md, .int (zI ml), .ref me, .ref mo, .int (zI sp), .int (zI wr), .int (zI tp), .int (zI bt), .int (zI lf), .int (zI rg), .int (zI dp)], cI cA ms 800 (zU u3 (pt + (row * 32 + c2)) (av2_11 (pt + (row * 32 + (31 - c2))))), cI cA ma 800 av2_11, cI cA mp 3200 past2_6, cI cA me 32 sn] dX6_turn_61 rfl rfl ⟨by omega, by omega, by omega⟩ rfl ?_
            refine y_iinc C 3 [(3, .int (zI (c2 + 1))), (0, .ref y), (1, .int (zI row)), (2, .int (zI pt))] dX6_turn_62 rfl (by decide) rfl ?_
            refine y_goto C 29 dX6_turn_65 (by decide) ?_
            refine y_lsub C [1, 2, 3, 0] (lv' := [(0, .ref y), (1, .int (zI row)), (2, .int (zI pt)), (3, .int (zI (c2 + 1)))]) rfl ?_
            exact ih29 (c2 + 1) (zU u3 (pt + (row * 32 + c2)) (av2_11 (pt + (row * 32 + (31 - c2))))) (by omega) (by exact turn_step ⟨by omega, by omega⟩ ⟨by omega, by omega⟩ (by omega) ha hu3) (by omega)
  · refine y_iconst C dX6_turn_7 ?_
    refine hret _ _ _ _ dX6_turn_8 ⟨u, av, past, np, sn, rfl, ?_⟩
    show ((-1) = ansTurn u row) ∧ (∀ j : Int, 0 ≤ j → j < 800 → u j = vI (vRow row) (turnU u row) u j) ∧ (∀ j : Int, 0 ≤ j → j < 800 * np → past j = vI (vRow row) (recP past u np) past j) ∧ (np = vI (vRow row) (nxS np) np)
    have hV : ¬ (vRow row) := by omega
    exact ⟨by unfold ansTurn; rw [vI_f hV], by rw [vI_f hV]; exact fun _ _ _ => rfl, by rw [vI_f hV]; exact fun _ _ _ => rfl, by rw [vI_f hV]⟩

set_option maxHeartbeats 4000000 in
set_option maxRecDepth 100000 in
theorem m_X6_print {l : Launch} {D : va_G} {cA cB : ClassId} {y ms ma mp mk md me mo : Nat} {np ik ml sp wr tp bt lf rg dp : Int} {u av past : Int → Int} {row : Int} (hzrow : zR row) (hnp : 0 ≤ np ∧ np ≤ 4) (hU : UK u) : MI l yX6_print cX6_print 2 .int { frames := 4, cells := 0, slots := 0, locals := 91 } D (zT cA cB) [.ref y, .int (zI row)] [cO y 6 [.ref ms, .ref ma, .ref mp, .int (zI np), .ref mk, .int (zI ik), .ref md, .int (zI ml), .ref me, .ref mo, .int (zI sp), .int (zI wr), .int (zI tp), .int (zI bt), .int (zI lf), .int (zI rg), .int (zI dp)], cI cA ms 800 u, cI cA ma 800 av, cI cA mp 3200 past] (fun r w => ∃ (u2 : Int → Int), ∃ (av2 : Int → Int), ∃ (past2 : Int → Int), ∃ (np2 : Int), w = [cO y 6 [.ref ms, .ref ma, .ref mp, .int (zI np2), .ref mk, .int (zI ik), .ref md, .int (zI ml), .ref me, .ref mo, .int (zI sp), .int (zI wr), .int (zI tp), .int (zI bt), .int (zI lf), .int (zI rg), .int (zI dp)], cI cA ms 800 u2, cI cA ma 800 av2, cI cA mp 3200 past2] ∧ (r = ansPrint u row) ∧ (∀ j : Int, 0 ≤ j → j < 800 → u2 j = vI (vRow row) (printU u row) u j) ∧ (∀ j : Int, 0 ≤ j → j < 800 * np2 → past2 j = vI (vRow row) (recP past u np) past j) ∧ (np2 = vI (vRow row) (nxS np) np)) := by
  refine MI.of RX6 ⟨rfl, by decide +kernel⟩ (Or.inl rfl) (Nat.le_of_ble_eq_true rfl) (fun h => by cases h) ?_
  intro K C hret
  change K 0 0 _ [(0, .ref y), (1, .int (zI row))] 0 []
  have hzrow1 := hzrow.1
  have hzrow2 := hzrow.2
  refine y_iload_n C 1 dX6_print_0 rfl ?_
  refine y_pcalls C (m_X6_isRow (l := l) (D := D) (cA := cA) (cB := cB) (xx := row) (by first | assumption | exact ⟨by omega, by omega⟩)) lk_X6_78 [] [0, 1, 2, 3] [0, 1, 2, 3] ⟨rfl, rfl, by decide, by decide, by decide⟩ ⟨rfl, by decide⟩ dX6_print_1 rfl rfl ⟨by exact Nat.le_of_ble_eq_true rfl, by exact Nat.le_of_ble_eq_true rfl, rfl, rfl, by exact Nat.le_of_ble_eq_true rfl, by exact Nat.le_of_ble_eq_true rfl, by exact Nat.le_of_ble_eq_true rfl⟩ (fun r_2 h_1 => ?_)
  refine y_if_ne C 9 dX6_print_4 (by decide) ⟨by omega, by omega⟩ (fun c_3 => ?_) (fun c_3 => ?_)
  · refine y_aload_n C 0 dX6_print_9 rfl ?_
    refine y_mcallv C (m_X6_records (l := l) (D := D) (cA := cA) (cB := cB) (y := y) (ms := ms) (ma := ma) (mp := mp) (mk := mk) (md := md) (me := me) (mo := mo) (np := np) (ik := ik) (ml := ml) (sp := sp) (wr := wr) (tp := tp) (bt := bt) (lf := lf) (rg := rg) (dp := dp) (u := u) (past := past) (by first | assumption | omega | exact ⟨by omega, by omega⟩)) lk_X6_81 [0, 1, 3] [2] ⟨rfl, rfl, by decide, by decide, by decide⟩ (jb := 0) rfl rfl dX6_print_10 rfl rfl ⟨by exact Nat.le_of_ble_eq_true rfl, by exact Nat.le_of_ble_eq_true rfl, rfl, rfl, by exact Nat.le_of_ble_eq_true rfl, by exact Nat.le_of_ble_eq_true rfl, by exact Nat.le_of_ble_eq_true rfl⟩ (fun w_8 h_4 => ?_)
    obtain ⟨past2_6, np2_7, rfl, h_4⟩ := h_4
    refine ⟨[1, 2, 0, 3], [cO y 6 [.ref ms, .ref ma, .ref mp, .int (zI np2_7), .ref mk, .int (zI ik), .ref md, .int (zI ml), .ref me, .ref mo, .int (zI sp), .int (zI wr), .int (zI tp), .int (zI bt), .int (zI lf), .int (zI rg), .int (zI dp)], cI cA ms 800 u, cI cA ma 800 av, cI cA mp 3200 past2_6], ⟨rfl, by decide⟩, ?_⟩
    obtain ⟨hr1, hr2⟩ := h_4
    refine y_aload_n C 0 dX6_print_13 rfl ?_
    refine y_mcallv C (m_X6_putAside (l := l) (D := D) (cA := cA) (cB := cB) (y := y) (ms := ms) (ma := ma) (mp := mp) (mk := mk) (md := md) (me := me) (mo := mo) (np := np2_7) (ik := ik) (ml := ml) (sp := sp) (wr := wr) (tp := tp) (bt := bt) (lf := lf) (rg := rg) (dp := dp) (u := u) (av := av) ) lk_X6_84 [0, 1, 2] [3] ⟨rfl, rfl, by decide, by decide, by decide⟩ (jb := 0) rfl rfl dX6_print_14 rfl rfl ⟨by exact Nat.le_of_ble_eq_true rfl, by exact Nat.le_of_ble_eq_true rfl, rfl, rfl, by exact Nat.le_of_ble_eq_true rfl, by exact Nat.le_of_ble_eq_true rfl, by exact Nat.le_of_ble_eq_true rfl⟩ (fun w_12 h_9 => ?_)
    obtain ⟨av2_11, rfl, h_9⟩ := h_9
    refine ⟨[1, 2, 3, 0], [cO y 6 [.ref ms, .ref ma, .ref mp, .int (zI np2_7), .ref mk, .int (zI ik), .ref md, .int (zI ml), .ref me, .ref mo, .int (zI sp), .int (zI wr), .int (zI tp), .int (zI bt), .int (zI lf), .int (zI rg), .int (zI dp)], cI cA ms 800 u, cI cA ma 800 av2_11, cI cA mp 3200 past2_6], ⟨rfl, by decide⟩, ?_⟩
    have ha := h_9
    refine y_aload_n C 0 dX6_print_17 rfl ?_
    refine y_iload_n C 1 dX6_print_18 rfl ?_
    refine y_mcallv C (m_X6_prints (l := l) (D := D) (cA := cA) (cB := cB) (y := y) (ms := ms) (ma := ma) (mp := mp) (mk := mk) (md := md) (me := me) (mo := mo) (np := np2_7) (ik := ik) (ml := ml) (sp := sp) (wr := wr) (tp := tp) (bt := bt) (lf := lf) (rg := rg) (dp := dp) (u := u) (row := row) (by first | assumption | omega | exact ⟨by omega, by omega⟩) (by first | assumption | omega | exact ⟨by omega, by omega⟩)) lk_X6_94 [0, 1] [2, 3] ⟨rfl, rfl, by decide, by decide, by decide⟩ (jb := 0) rfl rfl dX6_print_19 rfl rfl ⟨by exact Nat.le_of_ble_eq_true rfl, by exact Nat.le_of_ble_eq_true rfl, rfl, rfl, by exact Nat.le_of_ble_eq_true rfl, by exact Nat.le_of_ble_eq_true rfl, by exact Nat.le_of_ble_eq_true rfl⟩ (fun w_16 h_13 => ?_)
    obtain ⟨u2_15, rfl, h_13⟩ := h_13
    refine ⟨[2, 3, 0, 1], [cO y 6 [.ref ms, .ref ma, .ref mp, .int (zI np2_7), .ref mk, .int (zI ik), .ref md, .int (zI ml), .ref me, .ref mo, .int (zI sp), .int (zI wr), .int (zI tp), .int (zI bt), .int (zI lf), .int (zI rg), .int (zI dp)], cI cA ms 800 u2_15, cI cA ma 800 av2_11, cI cA mp 3200 past2_6], ⟨rfl, by decide⟩, ?_⟩
    have hl := h_13
    refine y_aload_n C 0 dX6_print_22 rfl ?_
    refine y_sipush C dX6_print_23 (by decide +kernel) ?_
    refine y_pcall C (m_X6_changed (l := l) (D := D) (cA := cA) (cB := cB) (y := y) (ms := ms) (ma := ma) (mp := mp) (mk := mk) (md := md) (me := me) (mo := mo) (np := np2_7) (ik := ik) (ml := ml) (sp := sp) (wr := wr) (tp := tp) (bt := bt) (lf := lf) (rg := rg) (dp := dp) (u := u2_15) (av := av2_11) (fr := 288) (by exact Or.inr rfl) (by exact (UK_print hU ⟨by omega, by omega⟩).c hl) (by exact hU.c ha)) lk_X6_91 [0, 1, 2] [3] [1, 2, 3, 0] ⟨rfl, rfl, by decide, by decide, by decide⟩ ⟨rfl, by decide⟩ rfl rfl dX6_print_26 rfl rfl ⟨by exact Nat.le_of_ble_eq_true rfl, by exact Nat.le_of_ble_eq_true rfl, rfl, rfl, by exact Nat.le_of_ble_eq_true rfl, by exact Nat.le_of_ble_eq_true rfl, by exact Nat.le_of_ble_eq_true rfl⟩ (fun r_18 h_17 => ?_)
    have hv := h_17
    refine hret _ _ _ _ dX6_print_29 ⟨u2_15, av2_11, past2_6, np2_7, rfl, ?_⟩
    show (r_18 = ansPrint u row) ∧ (∀ j : Int, 0 ≤ j → j < 800 → u2_15 j = vI (vRow row) (printU u row) u j) ∧ (∀ j : Int, 0 ≤ j → j < 800 * np2_7 → past2_6 j = vI (vRow row) (recP past u np) past j) ∧ (np2_7 = vI (vRow row) (nxS np) np)
    have hV : vRow row := by omega
    refine ⟨?_, by rw [vI_t hV]; exact hl, by rw [vI_t hV]; exact hr1, by rw [vI_t hV]; exact hr2⟩
    unfold ansPrint
    rw [vI_t hV]
    rw [hv.1]
    exact difP_congr (by omega) hl ha
  · refine y_iconst C dX6_print_7 ?_
    refine hret _ _ _ _ dX6_print_8 ⟨u, av, past, np, rfl, ?_⟩
    show ((-1) = ansPrint u row) ∧ (∀ j : Int, 0 ≤ j → j < 800 → u j = vI (vRow row) (printU u row) u j) ∧ (∀ j : Int, 0 ≤ j → j < 800 * np → past j = vI (vRow row) (recP past u np) past j) ∧ (np = vI (vRow row) (nxS np) np)
    have hV : ¬ (vRow row) := by omega
    exact ⟨by unfold ansPrint; rw [vI_f hV], by rw [vI_f hV]; exact fun _ _ _ => rfl, by rw [vI_f hV]; exact fun _ _ _ => rfl, by rw [vI_f hV]⟩

set_option maxHeartbeats 4000000 in
set_option maxRecDepth 100000 in
theorem m_X6_printAll {l : Launch} {D : va_G} {cA cB : ClassId} {y ms ma mp mk md me mo : Nat} {np ik ml sp wr tp bt lf rg dp : Int} {u av past : Int → Int} (hnp : 0 ≤ np ∧ np ≤ 4) (hU : UK u) : MI l yX6_printAll cX6_printAll 2 .int { frames := 4, cells := 0, slots := 0, locals := 91 } D (zT cA cB) [.ref y] [cO y 6 [.ref ms, .ref ma, .ref mp, .int (zI np), .ref mk, .int (zI ik), .ref md, .int (zI ml), .ref me, .ref mo, .int (zI sp), .int (zI wr), .int (zI tp), .int (zI bt), .int (zI lf), .int (zI rg), .int (zI dp)], cI cA ms 800 u, cI cA ma 800 av, cI cA mp 3200 past] (fun r w => ∃ (u2 : Int → Int), ∃ (av2 : Int → Int), ∃ (past2 : Int → Int), ∃ (np2 : Int), w = [cO y 6 [.ref ms, .ref ma, .ref mp, .int (zI np2), .ref mk, .int (zI ik), .ref md, .int (zI ml), .ref me, .ref mo, .int (zI sp), .int (zI wr), .int (zI tp), .int (zI bt), .int (zI lf), .int (zI rg), .int (zI dp)], cI cA ms 800 u2, cI cA ma 800 av2, cI cA mp 3200 past2] ∧ (r = difP (printC u 8) u 288) ∧ (∀ j : Int, 0 ≤ j → j < 800 → u2 j = printC u 8 j) ∧ (∀ j : Int, 0 ≤ j → j < 800 * np2 → past2 j = recP past u np j) ∧ (np2 = nxS np)) := by
  refine MI.of RX6 ⟨rfl, by decide +kernel⟩ (Or.inl rfl) (Nat.le_of_ble_eq_true rfl) (fun h => by cases h) ?_
  intro K C hret
  change K 0 0 _ [(0, .ref y)] 0 []
  refine y_aload_n C 0 dX6_printAll_0 rfl ?_
  refine y_mcallv C (m_X6_records (l := l) (D := D) (cA := cA) (cB := cB) (y := y) (ms := ms) (ma := ma) (mp := mp) (mk := mk) (md := md) (me := me) (mo := mo) (np := np) (ik := ik) (ml := ml) (sp := sp) (wr := wr) (tp := tp) (bt := bt) (lf := lf) (rg := rg) (dp := dp) (u := u) (past := past) (by first | assumption | omega | exact ⟨by omega, by omega⟩)) lk_X6_81 [0, 1, 3] [2] ⟨rfl, rfl, by decide, by decide, by decide⟩ (jb := 0) rfl rfl dX6_printAll_1 rfl rfl ⟨by exact Nat.le_of_ble_eq_true rfl, by exact Nat.le_of_ble_eq_true rfl, rfl, rfl, by exact Nat.le_of_ble_eq_true rfl, by exact Nat.le_of_ble_eq_true rfl, by exact Nat.le_of_ble_eq_true rfl⟩ (fun w_5 h_1 => ?_)
  obtain ⟨past2_3, np2_4, rfl, h_1⟩ := h_1
  refine ⟨[1, 2, 0, 3], [cO y 6 [.ref ms, .ref ma, .ref mp, .int (zI np2_4), .ref mk, .int (zI ik), .ref md, .int (zI ml), .ref me, .ref mo, .int (zI sp), .int (zI wr), .int (zI tp), .int (zI bt), .int (zI lf), .int (zI rg), .int (zI dp)], cI cA ms 800 u, cI cA ma 800 av, cI cA mp 3200 past2_3], ⟨rfl, by decide⟩, ?_⟩
  obtain ⟨hr1, hr2⟩ := h_1
  refine y_aload_n C 0 dX6_printAll_4 rfl ?_
  refine y_mcallv C (m_X6_putAside (l := l) (D := D) (cA := cA) (cB := cB) (y := y) (ms := ms) (ma := ma) (mp := mp) (mk := mk) (md := md) (me := me) (mo := mo) (np := np2_4) (ik := ik) (ml := ml) (sp := sp) (wr := wr) (tp := tp) (bt := bt) (lf := lf) (rg := rg) (dp := dp) (u := u) (av := av) ) lk_X6_84 [0, 1, 2] [3] ⟨rfl, rfl, by decide, by decide, by decide⟩ (jb := 0) rfl rfl dX6_printAll_5 rfl rfl ⟨by exact Nat.le_of_ble_eq_true rfl, by exact Nat.le_of_ble_eq_true rfl, rfl, rfl, by exact Nat.le_of_ble_eq_true rfl, by exact Nat.le_of_ble_eq_true rfl, by exact Nat.le_of_ble_eq_true rfl⟩ (fun w_9 h_6 => ?_)
  obtain ⟨av2_8, rfl, h_6⟩ := h_6
  refine ⟨[1, 2, 3, 0], [cO y 6 [.ref ms, .ref ma, .ref mp, .int (zI np2_4), .ref mk, .int (zI ik), .ref md, .int (zI ml), .ref me, .ref mo, .int (zI sp), .int (zI wr), .int (zI tp), .int (zI bt), .int (zI lf), .int (zI rg), .int (zI dp)], cI cA ms 800 u, cI cA ma 800 av2_8, cI cA mp 3200 past2_3], ⟨rfl, by decide⟩, ?_⟩
  have ha := h_6
  refine y_iconst C dX6_printAll_8 ?_
  refine y_istore_n C [(1, .int (zI 0)), (0, .ref y)] dX6_printAll_9 (by decide) rfl ?_
  refine y_lsub C [1, 0] (lv' := [(0, .ref y), (1, .int (zI 0))]) rfl ?_
  suffices hL10 : ∀ (fu : Nat) (row : Int) (u1 : Int → Int), (0 ≤ row ∧ row ≤ 8) → (∀ j : Int, 0 ≤ j → j < 800 → u1 j = printC u row j) → (UK (printC u row)) → (8 - row).toNat < fu → K 0 0 [cO y 6 [.ref ms, .ref ma, .ref mp, .int (zI np2_4), .ref mk, .int (zI ik), .ref md, .int (zI ml), .ref me, .ref mo, .int (zI sp), .int (zI wr), .int (zI tp), .int (zI bt), .int (zI lf), .int (zI rg), .int (zI dp)], cI cA ms 800 u1, cI cA ma 800 av2_8, cI cA mp 3200 past2_3] [(0, .ref y), (1, .int (zI row))] 10 [] from hL10 _ 0 u (by omega) (by exact fun _ _ _ => rfl) (by exact hU) (Nat.lt_succ_self _)
  intro f10
  induction f10 with
  | zero => exact fun _ _ _ _ _ hf => absurd hf (Nat.not_lt_zero _)
  | succ f10 ih10 =>
    intro row u1 hrow hu1 hU1 hf10
    refine y_iload_n C 1 dX6_printAll_10 rfl ?_
    refine y_bipush C dX6_printAll_11 (by decide +kernel) ?_
    refine y_icmp_ge C 27 dX6_printAll_13 (by decide) ⟨⟨by omega, by omega⟩, ⟨by omega, by omega⟩⟩ (fun c_10 => ?_) (fun c_10 => ?_)
    · refine y_aload_n C 0 dX6_printAll_27 rfl ?_
      refine y_sipush C dX6_printAll_28 (by decide +kernel) ?_
      refine y_pcall C (m_X6_changed (l := l) (D := D) (cA := cA) (cB := cB) (y := y) (ms := ms) (ma := ma) (mp := mp) (mk := mk) (md := md) (me := me) (mo := mo) (np := np2_4) (ik := ik) (ml := ml) (sp := sp) (wr := wr) (tp := tp) (bt := bt) (lf := lf) (rg := rg) (dp := dp) (u := u1) (av := av2_8) (fr := 288) (by exact Or.inr rfl) (by exact hU1.c hu1) (by exact hU.c ha)) lk_X6_91 [0, 1, 2] [3] [1, 2, 3, 0] ⟨rfl, rfl, by decide, by decide, by decide⟩ ⟨rfl, by decide⟩ rfl rfl dX6_printAll_31 rfl rfl ⟨by exact Nat.le_of_ble_eq_true rfl, by exact Nat.le_of_ble_eq_true rfl, rfl, rfl, by exact Nat.le_of_ble_eq_true rfl, by exact Nat.le_of_ble_eq_true rfl, by exact Nat.le_of_ble_eq_true rfl⟩ (fun r_12 h_11 => ?_)
      have hv := h_11
      refine hret _ _ _ _ dX6_printAll_34 ⟨u1, av2_8, past2_3, np2_4, rfl, ?_⟩
      show (r_12 = difP (printC u 8) u 288) ∧ (∀ j : Int, 0 ≤ j → j < 800 → u1 j = printC u 8 j) ∧ (∀ j : Int, 0 ≤ j → j < 800 * np2_4 → past2_3 j = recP past u np j) ∧ (np2_4 = nxS np)
      obtain rfl : row = 8 := by omega
      refine ⟨?_, hu1, hr1, hr2⟩
      rw [hv.1]
      exact difP_congr (by omega) hu1 ha
    · refine y_aload_n C 0 dX6_printAll_16 rfl ?_
      refine y_iload_n C 1 dX6_printAll_17 rfl ?_
      refine y_mcallv C (m_X6_prints (l := l) (D := D) (cA := cA) (cB := cB) (y := y) (ms := ms) (ma := ma) (mp := mp) (mk := mk) (md := md) (me := me) (mo := mo) (np := np2_4) (ik := ik) (ml := ml) (sp := sp) (wr := wr) (tp := tp) (bt := bt) (lf := lf) (rg := rg) (dp := dp) (u := u1) (row := row) (by first | assumption | omega | exact ⟨by omega, by omega⟩) (by exact hU1.c hu1)) lk_X6_94 [0, 1] [2, 3] ⟨rfl, rfl, by decide, by decide, by decide⟩ (jb := 0) rfl rfl dX6_printAll_18 rfl rfl ⟨by exact Nat.le_of_ble_eq_true rfl, by exact Nat.le_of_ble_eq_true rfl, rfl, rfl, by exact Nat.le_of_ble_eq_true rfl, by exact Nat.le_of_ble_eq_true rfl, by exact Nat.le_of_ble_eq_true rfl⟩ (fun w_16 h_13 => ?_)
      obtain ⟨u2_15, rfl, h_13⟩ := h_13
      refine ⟨[2, 3, 0, 1], [cO y 6 [.ref ms, .ref ma, .ref mp, .int (zI np2_4), .ref mk, .int (zI ik), .ref md, .int (zI ml), .ref me, .ref mo, .int (zI sp), .int (zI wr), .int (zI tp), .int (zI bt), .int (zI lf), .int (zI rg), .int (zI dp)], cI cA ms 800 u2_15, cI cA ma 800 av2_8, cI cA mp 3200 past2_3], ⟨rfl, by decide⟩, ?_⟩
      have hl := h_13
      refine y_iinc C 1 [(1, .int (zI (row + 1))), (0, .ref y)] dX6_printAll_21 rfl (by decide) rfl ?_
      refine y_goto C 10 dX6_printAll_24 (by decide) ?_
      refine y_lsub C [1, 0] (lv' := [(0, .ref y), (1, .int (zI (row + 1)))]) rfl ?_
      exact ih10 (row + 1) u2_15 (by omega) (by exact fun j a b => (hl j a b).trans (by rw [printC_s u (by omega)]; exact printU_congr ⟨by omega, by omega⟩ (hU1.c hu1) hu1 j a b)) (by rw [printC_s u (by omega)]; exact UK_print hU1 ⟨by omega, by omega⟩) (by omega)

set_option maxHeartbeats 4000000 in
set_option maxRecDepth 100000 in
theorem m_X6_paint {l : Launch} {D : va_G} {cA cB : ClassId} {y ms ma mp mk md me mo : Nat} {np ik ml sp wr tp bt lf rg dp : Int} {u past : Int → Int} {row col dot : Int} (hzrow : zR row) (hzcol : zR col) (hzdot : zR dot) (hnp : 0 ≤ np ∧ np ≤ 4) (hU : UK u) : MI l yX6_paint cX6_paint 6 .int { frames := 2, cells := 0, slots := 0, locals := 43 } D (zT cA cB) [.ref y, .int (zI row), .int (zI col), .int (zI dot)] [cO y 6 [.ref ms, .ref ma, .ref mp, .int (zI np), .ref mk, .int (zI ik), .ref md, .int (zI ml), .ref me, .ref mo, .int (zI sp), .int (zI wr), .int (zI tp), .int (zI bt), .int (zI lf), .int (zI rg), .int (zI dp)], cI cA ms 800 u, cI cA mp 3200 past] (fun r w => ∃ (u2 : Int → Int), ∃ (past2 : Int → Int), ∃ (np2 : Int), w = [cO y 6 [.ref ms, .ref ma, .ref mp, .int (zI np2), .ref mk, .int (zI ik), .ref md, .int (zI ml), .ref me, .ref mo, .int (zI sp), .int (zI wr), .int (zI tp), .int (zI bt), .int (zI lf), .int (zI rg), .int (zI dp)], cI cA ms 800 u2, cI cA mp 3200 past2] ∧ (r = ansPaint u row col dot) ∧ (∀ j : Int, 0 ≤ j → j < 800 → u2 j = vI (vPaint row col dot) (paintU u row col dot) u j) ∧ (∀ j : Int, 0 ≤ j → j < 800 * np2 → past2 j = vI (vPaint row col dot) (recP past u np) past j) ∧ (np2 = vI (vPaint row col dot) (nxS np) np)) := by
  refine MI.of RX6 ⟨rfl, by decide +kernel⟩ (Or.inl rfl) (Nat.le_of_ble_eq_true rfl) (fun h => by cases h) ?_
  intro K C hret
  change K 0 0 _ [(0, .ref y), (1, .int (zI row)), (2, .int (zI col)), (3, .int (zI dot))] 0 []
  have hzrow1 := hzrow.1
  have hzrow2 := hzrow.2
  have hzcol1 := hzcol.1
  have hzcol2 := hzcol.2
  have hzdot1 := hzdot.1
  have hzdot2 := hzdot.2
  have huk := hU.k
  refine y_iload_n C 1 dX6_paint_0 rfl ?_
  refine y_pcalls C (m_X6_isRow (l := l) (D := D) (cA := cA) (cB := cB) (xx := row) (by first | assumption | exact ⟨by omega, by omega⟩)) lk_X6_78 [] [0, 1, 2] [0, 1, 2] ⟨rfl, rfl, by decide, by decide, by decide⟩ ⟨rfl, by decide⟩ dX6_paint_1 rfl rfl ⟨by exact Nat.le_of_ble_eq_true rfl, by exact Nat.le_of_ble_eq_true rfl, rfl, rfl, by exact Nat.le_of_ble_eq_true rfl, by exact Nat.le_of_ble_eq_true rfl, by exact Nat.le_of_ble_eq_true rfl⟩ (fun r_2 h_1 => ?_)
  refine y_if_eq C 24 dX6_paint_4 (by decide) ⟨by omega, by omega⟩ (fun c_3 => ?_) (fun c_3 => ?_)
  · refine y_iconst C dX6_paint_24 ?_
    refine hret _ _ _ _ dX6_paint_25 ⟨u, past, np, rfl, ?_⟩
    show ((-1) = ansPaint u row col dot) ∧ (∀ j : Int, 0 ≤ j → j < 800 → u j = vI (vPaint row col dot) (paintU u row col dot) u j) ∧ (∀ j : Int, 0 ≤ j → j < 800 * np → past j = vI (vPaint row col dot) (recP past u np) past j) ∧ (np = vI (vPaint row col dot) (nxS np) np)
    have hV : ¬ (vPaint row col dot) := by omega
    exact ⟨by unfold ansPaint; rw [vI_f hV], by rw [vI_f hV]; exact fun _ _ _ => rfl, by rw [vI_f hV]; exact fun _ _ _ => rfl, by rw [vI_f hV]⟩
  · refine y_iload_n C 2 dX6_paint_7 rfl ?_
    refine y_pcalls C (m_X6_isColumn (l := l) (D := D) (cA := cA) (cB := cB) (xx := col) (by first | assumption | exact ⟨by omega, by omega⟩)) lk_X6_52 [] [0, 1, 2] [0, 1, 2] ⟨rfl, rfl, by decide, by decide, by decide⟩ ⟨rfl, by decide⟩ dX6_paint_8 rfl rfl ⟨by exact Nat.le_of_ble_eq_true rfl, by exact Nat.le_of_ble_eq_true rfl, rfl, rfl, by exact Nat.le_of_ble_eq_true rfl, by exact Nat.le_of_ble_eq_true rfl, by exact Nat.le_of_ble_eq_true rfl⟩ (fun r_5 h_4 => ?_)
    refine y_if_eq C 24 dX6_paint_11 (by decide) ⟨by omega, by omega⟩ (fun c_6 => ?_) (fun c_6 => ?_)
    · refine y_iconst C dX6_paint_24 ?_
      refine hret _ _ _ _ dX6_paint_25 ⟨u, past, np, rfl, ?_⟩
      show ((-1) = ansPaint u row col dot) ∧ (∀ j : Int, 0 ≤ j → j < 800 → u j = vI (vPaint row col dot) (paintU u row col dot) u j) ∧ (∀ j : Int, 0 ≤ j → j < 800 * np → past j = vI (vPaint row col dot) (recP past u np) past j) ∧ (np = vI (vPaint row col dot) (nxS np) np)
      have hV : ¬ (vPaint row col dot) := by omega
      exact ⟨by unfold ansPaint; rw [vI_f hV], by rw [vI_f hV]; exact fun _ _ _ => rfl, by rw [vI_f hV]; exact fun _ _ _ => rfl, by rw [vI_f hV]⟩
    · refine y_iload_n C 3 dX6_paint_14 rfl ?_
      refine y_iconst C dX6_paint_15 ?_
      refine y_bipush C dX6_paint_16 (by decide +kernel) ?_
      refine y_pcalls C (m_X6_in (l := l) (D := D) (cA := cA) (cB := cB) (vv := dot) (lo := 0) (hi := 7) (by first | assumption | exact ⟨by omega, by omega⟩) (by first | assumption | exact ⟨by omega, by omega⟩) (by first | assumption | exact ⟨by omega, by omega⟩)) lk_X6_31 [] [0, 1, 2] [0, 1, 2] ⟨rfl, rfl, by decide, by decide, by decide⟩ ⟨rfl, by decide⟩ dX6_paint_18 rfl rfl ⟨by exact Nat.le_of_ble_eq_true rfl, by exact Nat.le_of_ble_eq_true rfl, rfl, rfl, by exact Nat.le_of_ble_eq_true rfl, by exact Nat.le_of_ble_eq_true rfl, by exact Nat.le_of_ble_eq_true rfl⟩ (fun r_8 h_7 => ?_)
      refine y_if_ne C 26 dX6_paint_21 (by decide) ⟨by omega, by omega⟩ (fun c_9 => ?_) (fun c_9 => ?_)
      · refine y_aload_n C 0 dX6_paint_26 rfl ?_
        refine y_mcallv C (m_X6_records (l := l) (D := D) (cA := cA) (cB := cB) (y := y) (ms := ms) (ma := ma) (mp := mp) (mk := mk) (md := md) (me := me) (mo := mo) (np := np) (ik := ik) (ml := ml) (sp := sp) (wr := wr) (tp := tp) (bt := bt) (lf := lf) (rg := rg) (dp := dp) (u := u) (past := past) (by first | assumption | omega | exact ⟨by omega, by omega⟩)) lk_X6_81 [0, 1, 2] [] ⟨rfl, rfl, by decide, by decide, by decide⟩ (jb := 0) rfl rfl dX6_paint_27 rfl rfl ⟨by exact Nat.le_of_ble_eq_true rfl, by exact Nat.le_of_ble_eq_true rfl, rfl, rfl, by exact Nat.le_of_ble_eq_true rfl, by exact Nat.le_of_ble_eq_true rfl, by exact Nat.le_of_ble_eq_true rfl⟩ (fun w_14 h_10 => ?_)
        obtain ⟨past2_12, np2_13, rfl, h_10⟩ := h_10
        refine ⟨[0, 1, 2], [cO y 6 [.ref ms, .ref ma, .ref mp, .int (zI np2_13), .ref mk, .int (zI ik), .ref md, .int (zI ml), .ref me, .ref mo, .int (zI sp), .int (zI wr), .int (zI tp), .int (zI bt), .int (zI lf), .int (zI rg), .int (zI dp)], cI cA ms 800 u, cI cA mp 3200 past2_12], ⟨rfl, by decide⟩, ?_⟩
        obtain ⟨hr1, hr2⟩ := h_10
        refine y_aload_n C 0 dX6_paint_30 rfl ?_
        refine y_iload_n C 1 dX6_paint_31 rfl ?_
        refine y_iload_n C 2 dX6_paint_32 rfl ?_
        refine y_pcall C (m_X6_dotOf (l := l) (D := D) (cA := cA) (cB := cB) (y := y) (ms := ms) (ma := ma) (mp := mp) (mk := mk) (md := md) (me := me) (mo := mo) (np := np2_13) (ik := ik) (ml := ml) (sp := sp) (wr := wr) (tp := tp) (bt := bt) (lf := lf) (rg := rg) (dp := dp) (u := u) (row := row) (c := col) (by first | assumption | omega | exact ⟨by omega, by omega⟩) (by first | assumption | omega | exact ⟨by omega, by omega⟩) (by first | assumption | omega | exact ⟨by omega, by omega⟩)) lk_X6_56 [0, 1] [2] [1, 2, 0] ⟨rfl, rfl, by decide, by decide, by decide⟩ ⟨rfl, by decide⟩ rfl rfl dX6_paint_33 rfl rfl ⟨by exact Nat.le_of_ble_eq_true rfl, by exact Nat.le_of_ble_eq_true rfl, rfl, rfl, by exact Nat.le_of_ble_eq_true rfl, by exact Nat.le_of_ble_eq_true rfl, by exact Nat.le_of_ble_eq_true rfl⟩ (fun r_16 h_15 => ?_)
        have hd : r_16 = u (288 + (row * 32 + col)) := (h_15).1
        refine y_istore C [(4, .int (zI r_16)), (0, .ref y), (1, .int (zI row)), (2, .int (zI col)), (3, .int (zI dot))] dX6_paint_36 (by decide) rfl ?_
        refine y_sipush C dX6_paint_38 (by decide +kernel) ?_
        refine y_iload_n C 2 dX6_paint_41 rfl ?_
        refine y_iload_n C 3 dX6_paint_42 rfl ?_
        refine y_pcalls C (m_X6_place (l := l) (D := D) (cA := cA) (cB := cB) (rr := row) (cc := col) ) lk_X6_35 [] [0, 1, 2] [0, 1, 2] ⟨rfl, rfl, by decide, by decide, by decide⟩ ⟨rfl, by decide⟩ dX6_paint_43 rfl rfl ⟨by exact Nat.le_of_ble_eq_true rfl, by exact Nat.le_of_ble_eq_true rfl, rfl, rfl, by exact Nat.le_of_ble_eq_true rfl, by exact Nat.le_of_ble_eq_true rfl, by exact Nat.le_of_ble_eq_true rfl⟩ (fun r_18 h_17 => ?_)
        refine y_iadd C dX6_paint_46 ?_
        refine y_top (show (544 + r_18) = (544 + (row * 32 + col)) from by omega) ?_
        have hk1 := huk (row * 32 + col) (by omega) (by omega)
        refine y_istore C [(5, .int (zI (544 + (row * 32 + col)))), (4, .int (zI r_16)), (0, .ref y), (1, .int (zI row)), (2, .int (zI col)), (3, .int (zI dot))] dX6_paint_47 (by decide) rfl ?_
        refine y_aload_n C 2 dX6_paint_49 rfl ?_
        refine y_get C fg_X6_7 0 dX6_paint_50 rfl rfl ?_
        refine y_iload C 0 dX6_paint_53 rfl ?_
        refine y_aload_n C 2 dX6_paint_55 rfl ?_
        refine y_get C fg_X6_7 0 dX6_paint_56 rfl rfl ?_
        refine y_iload C 0 dX6_paint_59 rfl ?_
        refine y_iald C 1 0 dX6_paint_61 rfl rfl ⟨by omega, by omega, by omega⟩ ?_
        refine y_if_ne C 72 dX6_paint_62 (by decide) ⟨by omega, by omega⟩ (fun c_19 => ?_) (fun c_19 => ?_)
        · refine y_aload_n C 2 dX6_paint_72 rfl ?_
          refine y_get C fg_X6_7 0 dX6_paint_73 rfl rfl ?_
          refine y_iload C 0 dX6_paint_76 rfl ?_
          refine y_iald C 1 0 dX6_paint_78 rfl rfl ⟨by omega, by omega, by omega⟩ ?_
          refine y_iast C 1 0 [cO y 6 [.ref ms, .ref ma, .ref mp, .int (zI np2_13), .ref mk, .int (zI ik), .ref md, .int (zI ml), .ref me, .ref mo, .int (zI sp), .int (zI wr), .int (zI tp), .int (zI bt), .int (zI lf), .int (zI rg), .int (zI dp)], cI cA ms 800 (zU u (544 + (row * 32 + col)) (u (544 + (row * 32 + col)))), cI cA mp 3200 past2_12] dX6_paint_79 rfl rfl ⟨by omega, by omega, by omega⟩ rfl ?_
          refine y_aload_n C 2 dX6_paint_80 rfl ?_
          refine y_get C fg_X6_7 0 dX6_paint_81 rfl rfl ?_
          refine y_sipush C dX6_paint_84 (by decide +kernel) ?_
          refine y_iload_n C 3 dX6_paint_87 rfl ?_
          refine y_iload_n C 4 dX6_paint_88 rfl ?_
          refine y_pcalls C (m_X6_place (l := l) (D := D) (cA := cA) (cB := cB) (rr := row) (cc := col) ) lk_X6_35 [] [0, 1, 2] [0, 1, 2] ⟨rfl, rfl, by decide, by decide, by decide⟩ ⟨rfl, by decide⟩ dX6_paint_89 rfl rfl ⟨by exact Nat.le_of_ble_eq_true rfl, by exact Nat.le_of_ble_eq_true rfl, rfl, rfl, by exact Nat.le_of_ble_eq_true rfl, by exact Nat.le_of_ble_eq_true rfl, by exact Nat.le_of_ble_eq_true rfl⟩ (fun r_21 h_20 => ?_)
          refine y_iadd C dX6_paint_92 ?_
          refine y_top (show (288 + r_21) = (288 + (row * 32 + col)) from by omega) ?_
          refine y_iload_n C 5 dX6_paint_93 rfl ?_
          refine y_iast C 1 0 [cO y 6 [.ref ms, .ref ma, .ref mp, .int (zI np2_13), .ref mk, .int (zI ik), .ref md, .int (zI ml), .ref me, .ref mo, .int (zI sp), .int (zI wr), .int (zI tp), .int (zI bt), .int (zI lf), .int (zI rg), .int (zI dp)], cI cA ms 800 (zU (zU u (544 + (row * 32 + col)) (u (544 + (row * 32 + col)))) (288 + (row * 32 + col)) dot), cI cA mp 3200 past2_12] dX6_paint_94 rfl rfl ⟨by omega, by omega, by omega⟩ rfl ?_
          refine y_iload C 1 dX6_paint_95 rfl ?_
          refine hret _ _ _ _ dX6_paint_97 ⟨(zU (zU u (544 + (row * 32 + col)) (u (544 + (row * 32 + col)))) (288 + (row * 32 + col)) dot), past2_12, np2_13, rfl, ?_⟩
          show (r_16 = ansPaint u row col dot) ∧ (∀ j : Int, 0 ≤ j → j < 800 → (zU (zU u (544 + (row * 32 + col)) (u (544 + (row * 32 + col)))) (288 + (row * 32 + col)) dot) j = vI (vPaint row col dot) (paintU u row col dot) u j) ∧ (∀ j : Int, 0 ≤ j → j < 800 * np2_13 → past2_12 j = vI (vPaint row col dot) (recP past u np) past j) ∧ (np2_13 = vI (vPaint row col dot) (nxS np) np)
          have hV : vPaint row col dot := by omega
          refine ⟨?_, by rw [vI_t hV]; exact fun j a b => by unfold paintU; (first | (exact (Classical.em (j = 288 + (row * 32 + col))).elim (fun q => by subst q; rw [zU_s, if_pos rfl]) (fun q => by rw [zU_n q, if_neg q]; exact (Classical.em (j = 544 + (row * 32 + col))).elim (fun q2 => by subst q2; rw [zU_s]; (repeat' split) <;> first | rfl | omega) (fun q2 => by rw [zU_n q2, if_neg (by omega)])))), by rw [vI_t hV]; exact hr1, by rw [vI_t hV]; exact hr2⟩
          unfold ansPaint
          rw [vI_t hV]
          exact hd
        · refine y_iload C 1 dX6_paint_65 rfl ?_
          refine y_iconst C dX6_paint_67 ?_
          refine y_iadd C dX6_paint_68 ?_
          refine y_goto C 79 dX6_paint_69 (by decide) ?_
          refine y_iast C 1 0 [cO y 6 [.ref ms, .ref ma, .ref mp, .int (zI np2_13), .ref mk, .int (zI ik), .ref md, .int (zI ml), .ref me, .ref mo, .int (zI sp), .int (zI wr), .int (zI tp), .int (zI bt), .int (zI lf), .int (zI rg), .int (zI dp)], cI cA ms 800 (zU u (544 + (row * 32 + col)) (r_16 + 1)), cI cA mp 3200 past2_12] dX6_paint_79 rfl rfl ⟨by omega, by omega, by omega⟩ rfl ?_
          refine y_aload_n C 2 dX6_paint_80 rfl ?_
          refine y_get C fg_X6_7 0 dX6_paint_81 rfl rfl ?_
          refine y_sipush C dX6_paint_84 (by decide +kernel) ?_
          refine y_iload_n C 3 dX6_paint_87 rfl ?_
          refine y_iload_n C 4 dX6_paint_88 rfl ?_
          refine y_pcalls C (m_X6_place (l := l) (D := D) (cA := cA) (cB := cB) (rr := row) (cc := col) ) lk_X6_35 [] [0, 1, 2] [0, 1, 2] ⟨rfl, rfl, by decide, by decide, by decide⟩ ⟨rfl, by decide⟩ dX6_paint_89 rfl rfl ⟨by exact Nat.le_of_ble_eq_true rfl, by exact Nat.le_of_ble_eq_true rfl, rfl, rfl, by exact Nat.le_of_ble_eq_true rfl, by exact Nat.le_of_ble_eq_true rfl, by exact Nat.le_of_ble_eq_true rfl⟩ (fun r_23 h_22 => ?_)
          refine y_iadd C dX6_paint_92 ?_
          refine y_top (show (288 + r_23) = (288 + (row * 32 + col)) from by omega) ?_
          refine y_iload_n C 5 dX6_paint_93 rfl ?_
          refine y_iast C 1 0 [cO y 6 [.ref ms, .ref ma, .ref mp, .int (zI np2_13), .ref mk, .int (zI ik), .ref md, .int (zI ml), .ref me, .ref mo, .int (zI sp), .int (zI wr), .int (zI tp), .int (zI bt), .int (zI lf), .int (zI rg), .int (zI dp)], cI cA ms 800 (zU (zU u (544 + (row * 32 + col)) (r_16 + 1)) (288 + (row * 32 + col)) dot), cI cA mp 3200 past2_12] dX6_paint_94 rfl rfl ⟨by omega, by omega, by omega⟩ rfl ?_
          refine y_iload C 1 dX6_paint_95 rfl ?_
          refine hret _ _ _ _ dX6_paint_97 ⟨(zU (zU u (544 + (row * 32 + col)) (r_16 + 1)) (288 + (row * 32 + col)) dot), past2_12, np2_13, rfl, ?_⟩
          show (r_16 = ansPaint u row col dot) ∧ (∀ j : Int, 0 ≤ j → j < 800 → (zU (zU u (544 + (row * 32 + col)) (r_16 + 1)) (288 + (row * 32 + col)) dot) j = vI (vPaint row col dot) (paintU u row col dot) u j) ∧ (∀ j : Int, 0 ≤ j → j < 800 * np2_13 → past2_12 j = vI (vPaint row col dot) (recP past u np) past j) ∧ (np2_13 = vI (vPaint row col dot) (nxS np) np)
          have hV : vPaint row col dot := by omega
          refine ⟨?_, by rw [vI_t hV]; exact fun j a b => by unfold paintU; (first | (exact (Classical.em (j = 288 + (row * 32 + col))).elim (fun q => by subst q; rw [zU_s, if_pos rfl]) (fun q => by rw [zU_n q, if_neg q]; exact (Classical.em (j = 544 + (row * 32 + col))).elim (fun q2 => by subst q2; rw [zU_s]; (repeat' split) <;> first | rfl | omega) (fun q2 => by rw [zU_n q2, if_neg (by omega)])))), by rw [vI_t hV]; exact hr1, by rw [vI_t hV]; exact hr2⟩
          unfold ansPaint
          rw [vI_t hV]
          exact hd
      · refine y_iconst C dX6_paint_24 ?_
        refine hret _ _ _ _ dX6_paint_25 ⟨u, past, np, rfl, ?_⟩
        show ((-1) = ansPaint u row col dot) ∧ (∀ j : Int, 0 ≤ j → j < 800 → u j = vI (vPaint row col dot) (paintU u row col dot) u j) ∧ (∀ j : Int, 0 ≤ j → j < 800 * np → past j = vI (vPaint row col dot) (recP past u np) past j) ∧ (np = vI (vPaint row col dot) (nxS np) np)
        have hV : ¬ (vPaint row col dot) := by omega
        exact ⟨by unfold ansPaint; rw [vI_f hV], by rw [vI_f hV]; exact fun _ _ _ => rfl, by rw [vI_f hV]; exact fun _ _ _ => rfl, by rw [vI_f hV]⟩

set_option maxHeartbeats 4000000 in
set_option maxRecDepth 100000 in
theorem m_X6_wipe {l : Launch} {D : va_G} {cA cB : ClassId} {y ms ma mp mk md me mo : Nat} {np ik ml sp wr tp bt lf rg dp : Int} {u past : Int → Int} {row : Int} (hzrow : zR row) (hnp : 0 ≤ np ∧ np ≤ 4) (hU : UK u) : MI l yX6_wipe cX6_wipe 5 .int { frames := 2, cells := 0, slots := 0, locals := 42 } D (zT cA cB) [.ref y, .int (zI row)] [cO y 6 [.ref ms, .ref ma, .ref mp, .int (zI np), .ref mk, .int (zI ik), .ref md, .int (zI ml), .ref me, .ref mo, .int (zI sp), .int (zI wr), .int (zI tp), .int (zI bt), .int (zI lf), .int (zI rg), .int (zI dp)], cI cA ms 800 u, cI cA mp 3200 past] (fun r w => ∃ (u2 : Int → Int), ∃ (past2 : Int → Int), ∃ (np2 : Int), w = [cO y 6 [.ref ms, .ref ma, .ref mp, .int (zI np2), .ref mk, .int (zI ik), .ref md, .int (zI ml), .ref me, .ref mo, .int (zI sp), .int (zI wr), .int (zI tp), .int (zI bt), .int (zI lf), .int (zI rg), .int (zI dp)], cI cA ms 800 u2, cI cA mp 3200 past2] ∧ (r = ansWipe u row) ∧ (∀ j : Int, 0 ≤ j → j < 800 → u2 j = vI (vRow row) (wipeU u row) u j) ∧ (∀ j : Int, 0 ≤ j → j < 800 * np2 → past2 j = vI (vRow row) (recP past u np) past j) ∧ (np2 = vI (vRow row) (nxS np) np)) := by
  refine MI.of RX6 ⟨rfl, by decide +kernel⟩ (Or.inl rfl) (Nat.le_of_ble_eq_true rfl) (fun h => by cases h) ?_
  intro K C hret
  change K 0 0 _ [(0, .ref y), (1, .int (zI row))] 0 []
  have hzrow1 := hzrow.1
  have hzrow2 := hzrow.2
  have huk := hU.k
  have hud := hU.d
  refine y_iload_n C 1 dX6_wipe_0 rfl ?_
  refine y_pcalls C (m_X6_isRow (l := l) (D := D) (cA := cA) (cB := cB) (xx := row) (by first | assumption | exact ⟨by omega, by omega⟩)) lk_X6_78 [] [0, 1, 2] [0, 1, 2] ⟨rfl, rfl, by decide, by decide, by decide⟩ ⟨rfl, by decide⟩ dX6_wipe_1 rfl rfl ⟨by exact Nat.le_of_ble_eq_true rfl, by exact Nat.le_of_ble_eq_true rfl, rfl, rfl, by exact Nat.le_of_ble_eq_true rfl, by exact Nat.le_of_ble_eq_true rfl, by exact Nat.le_of_ble_eq_true rfl⟩ (fun r_2 h_1 => ?_)
  refine y_if_ne C 9 dX6_wipe_4 (by decide) ⟨by omega, by omega⟩ (fun c_3 => ?_) (fun c_3 => ?_)
  · refine y_aload_n C 0 dX6_wipe_9 rfl ?_
    refine y_mcallv C (m_X6_records (l := l) (D := D) (cA := cA) (cB := cB) (y := y) (ms := ms) (ma := ma) (mp := mp) (mk := mk) (md := md) (me := me) (mo := mo) (np := np) (ik := ik) (ml := ml) (sp := sp) (wr := wr) (tp := tp) (bt := bt) (lf := lf) (rg := rg) (dp := dp) (u := u) (past := past) (by first | assumption | omega | exact ⟨by omega, by omega⟩)) lk_X6_81 [0, 1, 2] [] ⟨rfl, rfl, by decide, by decide, by decide⟩ (jb := 0) rfl rfl dX6_wipe_10 rfl rfl ⟨by exact Nat.le_of_ble_eq_true rfl, by exact Nat.le_of_ble_eq_true rfl, rfl, rfl, by exact Nat.le_of_ble_eq_true rfl, by exact Nat.le_of_ble_eq_true rfl, by exact Nat.le_of_ble_eq_true rfl⟩ (fun w_8 h_4 => ?_)
    obtain ⟨past2_6, np2_7, rfl, h_4⟩ := h_4
    refine ⟨[0, 1, 2], [cO y 6 [.ref ms, .ref ma, .ref mp, .int (zI np2_7), .ref mk, .int (zI ik), .ref md, .int (zI ml), .ref me, .ref mo, .int (zI sp), .int (zI wr), .int (zI tp), .int (zI bt), .int (zI lf), .int (zI rg), .int (zI dp)], cI cA ms 800 u, cI cA mp 3200 past2_6], ⟨rfl, by decide⟩, ?_⟩
    obtain ⟨hr1, hr2⟩ := h_4
    refine y_iconst C dX6_wipe_13 ?_
    refine y_istore_n C [(2, .int (zI 0)), (0, .ref y), (1, .int (zI row))] dX6_wipe_14 (by decide) rfl ?_
    refine y_iconst C dX6_wipe_15 ?_
    refine y_istore_n C [(3, .int (zI 0)), (2, .int (zI 0)), (0, .ref y), (1, .int (zI row))] dX6_wipe_16 (by decide) rfl ?_
    refine y_lsub C [2, 3, 1, 0] (lv' := [(0, .ref y), (1, .int (zI row)), (2, .int (zI 0)), (3, .int (zI 0))]) rfl ?_
    suffices hL17 : ∀ (fu : Nat) (n : Int) (c : Int) (u1 : Int → Int), (0 ≤ c ∧ c ≤ 32) → (n = zcnt (fun k => 0 < u (544 + (row * 32 + k))) c ∧ 0 ≤ n ∧ n ≤ c) → (∀ j : Int, 0 ≤ j → j < 800 → u1 j = if (288 + row * 32 ≤ j ∧ j < 288 + row * 32 + c) ∧ 0 < u (j + 256) then u (j + 256) - 1 else if 544 + row * 32 ≤ j ∧ j < 544 + row * 32 + c then 0 else u j) → (32 - c).toNat < fu → K 0 0 [cO y 6 [.ref ms, .ref ma, .ref mp, .int (zI np2_7), .ref mk, .int (zI ik), .ref md, .int (zI ml), .ref me, .ref mo, .int (zI sp), .int (zI wr), .int (zI tp), .int (zI bt), .int (zI lf), .int (zI rg), .int (zI dp)], cI cA ms 800 u1, cI cA mp 3200 past2_6] [(0, .ref y), (1, .int (zI row)), (2, .int (zI n)), (3, .int (zI c))] 17 [] from hL17 _ 0 0 u (by omega) (by exact ⟨rfl, by omega, by omega⟩) (by intro j a b; rw [if_neg (by omega), if_neg (by omega)]) (Nat.lt_succ_self _)
    intro f17
    induction f17 with
    | zero => exact fun _ _ _ _ _ _ hf => absurd hf (Nat.not_lt_zero _)
    | succ f17 ih17 =>
      intro n c u1 hc hn hu1 hf17
      refine y_iload_n C 3 dX6_wipe_17 rfl ?_
      refine y_bipush C dX6_wipe_18 (by decide +kernel) ?_
      refine y_icmp_ge C 86 dX6_wipe_20 (by decide) ⟨⟨by omega, by omega⟩, ⟨by omega, by omega⟩⟩ (fun c_9 => ?_) (fun c_9 => ?_)
      · refine y_iload_n C 2 dX6_wipe_86 rfl ?_
        refine hret _ _ _ _ dX6_wipe_87 ⟨u1, past2_6, np2_7, rfl, ?_⟩
        show (n = ansWipe u row) ∧ (∀ j : Int, 0 ≤ j → j < 800 → u1 j = vI (vRow row) (wipeU u row) u j) ∧ (∀ j : Int, 0 ≤ j → j < 800 * np2_7 → past2_6 j = vI (vRow row) (recP past u np) past j) ∧ (np2_7 = vI (vRow row) (nxS np) np)
        obtain rfl : c = 32 := by omega
        have hV : vRow row := by omega
        refine ⟨?_, by rw [vI_t hV]; exact fun j a b => (hu1 j a b).trans (by unfold wipeU; (repeat' split) <;> first | rfl | (exfalso; omega)), by rw [vI_t hV]; exact hr1, by rw [vI_t hV]; exact hr2⟩
        unfold ansWipe
        rw [vI_t hV]
        exact hn.1
      · refine y_aload_n C 0 dX6_wipe_23 rfl ?_
        refine y_get C fg_X6_7 0 dX6_wipe_24 rfl rfl ?_
        refine y_sipush C dX6_wipe_27 (by decide +kernel) ?_
        refine y_iload_n C 1 dX6_wipe_30 rfl ?_
        refine y_iload_n C 3 dX6_wipe_31 rfl ?_
        refine y_pcalls C (m_X6_place (l := l) (D := D) (cA := cA) (cB := cB) (rr := row) (cc := c) ) lk_X6_35 [] [0, 1, 2] [0, 1, 2] ⟨rfl, rfl, by decide, by decide, by decide⟩ ⟨rfl, by decide⟩ dX6_wipe_32 rfl rfl ⟨by exact Nat.le_of_ble_eq_true rfl, by exact Nat.le_of_ble_eq_true rfl, rfl, rfl, by exact Nat.le_of_ble_eq_true rfl, by exact Nat.le_of_ble_eq_true rfl, by exact Nat.le_of_ble_eq_true rfl⟩ (fun r_11 h_10 => ?_)
        refine y_iadd C dX6_wipe_35 ?_
        refine y_top (show (544 + r_11) = (544 + (row * 32 + c)) from by omega) ?_
        have e1 : u1 (544 + (row * 32 + c)) = u (544 + (row * 32 + c)) := by rw [hu1 _ (by omega) (by omega), if_neg (by omega), if_neg (by omega)]
        have e2 := huk (row * 32 + c) (by omega) (by omega)
        refine y_iald C 1 0 dX6_wipe_36 rfl rfl ⟨by omega, by omega, by omega⟩ ?_
        refine y_istore C [(4, .int (zI (u1 (544 + (row * 32 + c))))), (0, .ref y), (1, .int (zI row)), (2, .int (zI n)), (3, .int (zI c))] dX6_wipe_37 (by decide) rfl ?_
        refine y_iload C 0 dX6_wipe_39 rfl ?_
        refine y_if_le C 80 dX6_wipe_41 (by decide) ⟨by omega, by omega⟩ (fun c_12 => ?_) (fun c_12 => ?_)
        · refine y_iinc C 4 [(3, .int (zI (c + 1))), (4, .int (zI (u1 (544 + (row * 32 + c))))), (0, .ref y), (1, .int (zI row)), (2, .int (zI n))] dX6_wipe_80 rfl (by decide) rfl ?_
          refine y_goto C 17 dX6_wipe_83 (by decide) ?_
          refine y_lsub C [2, 3, 4, 0] (lv' := [(0, .ref y), (1, .int (zI row)), (2, .int (zI n)), (3, .int (zI (c + 1)))]) rfl ?_
          exact ih17 n (c + 1) u1 (by omega) (by refine ⟨?_, by omega, by omega⟩; exact zcnt_step (by omega) hn.1 (by omega)) (by first | exact wipe_step1 ⟨by omega, by omega⟩ ⟨by omega, by omega⟩ hu1 e1 (by omega) | exact wipe_step0 ⟨by omega, by omega⟩ ⟨by omega, by omega⟩ hu1 (by omega)) (by omega)
        · refine y_aload_n C 1 dX6_wipe_44 rfl ?_
          refine y_get C fg_X6_7 0 dX6_wipe_45 rfl rfl ?_
          refine y_sipush C dX6_wipe_48 (by decide +kernel) ?_
          refine y_iload_n C 2 dX6_wipe_51 rfl ?_
          refine y_iload_n C 4 dX6_wipe_52 rfl ?_
          refine y_pcalls C (m_X6_place (l := l) (D := D) (cA := cA) (cB := cB) (rr := row) (cc := c) ) lk_X6_35 [] [0, 1, 2] [0, 1, 2] ⟨rfl, rfl, by decide, by decide, by decide⟩ ⟨rfl, by decide⟩ dX6_wipe_53 rfl rfl ⟨by exact Nat.le_of_ble_eq_true rfl, by exact Nat.le_of_ble_eq_true rfl, rfl, rfl, by exact Nat.le_of_ble_eq_true rfl, by exact Nat.le_of_ble_eq_true rfl, by exact Nat.le_of_ble_eq_true rfl⟩ (fun r_14 h_13 => ?_)
          refine y_iadd C dX6_wipe_56 ?_
          refine y_top (show (288 + r_14) = (288 + (row * 32 + c)) from by omega) ?_
          refine y_iload C 0 dX6_wipe_57 rfl ?_
          refine y_iconst C dX6_wipe_59 ?_
          refine y_isub C dX6_wipe_60 ?_
          refine y_iast C 1 0 [cO y 6 [.ref ms, .ref ma, .ref mp, .int (zI np2_7), .ref mk, .int (zI ik), .ref md, .int (zI ml), .ref me, .ref mo, .int (zI sp), .int (zI wr), .int (zI tp), .int (zI bt), .int (zI lf), .int (zI rg), .int (zI dp)], cI cA ms 800 (zU u1 (288 + (row * 32 + c)) ((u1 (544 + (row * 32 + c))) - 1)), cI cA mp 3200 past2_6] dX6_wipe_61 rfl rfl ⟨by omega, by omega, by omega⟩ rfl ?_
          refine y_aload_n C 1 dX6_wipe_62 rfl ?_
          refine y_get C fg_X6_7 0 dX6_wipe_63 rfl rfl ?_
          refine y_sipush C dX6_wipe_66 (by decide +kernel) ?_
          refine y_iload_n C 2 dX6_wipe_69 rfl ?_
          refine y_iload_n C 4 dX6_wipe_70 rfl ?_
          refine y_pcalls C (m_X6_place (l := l) (D := D) (cA := cA) (cB := cB) (rr := row) (cc := c) ) lk_X6_35 [] [0, 1, 2] [0, 1, 2] ⟨rfl, rfl, by decide, by decide, by decide⟩ ⟨rfl, by decide⟩ dX6_wipe_71 rfl rfl ⟨by exact Nat.le_of_ble_eq_true rfl, by exact Nat.le_of_ble_eq_true rfl, rfl, rfl, by exact Nat.le_of_ble_eq_true rfl, by exact Nat.le_of_ble_eq_true rfl, by exact Nat.le_of_ble_eq_true rfl⟩ (fun r_16 h_15 => ?_)
          refine y_iadd C dX6_wipe_74 ?_
          refine y_top (show (544 + r_16) = (544 + (row * 32 + c)) from by omega) ?_
          refine y_iconst C dX6_wipe_75 ?_
          refine y_iast C 1 0 [cO y 6 [.ref ms, .ref ma, .ref mp, .int (zI np2_7), .ref mk, .int (zI ik), .ref md, .int (zI ml), .ref me, .ref mo, .int (zI sp), .int (zI wr), .int (zI tp), .int (zI bt), .int (zI lf), .int (zI rg), .int (zI dp)], cI cA ms 800 (zU (zU u1 (288 + (row * 32 + c)) ((u1 (544 + (row * 32 + c))) - 1)) (544 + (row * 32 + c)) 0), cI cA mp 3200 past2_6] dX6_wipe_76 rfl rfl ⟨by omega, by omega, by omega⟩ rfl ?_
          refine y_iinc C 3 [(2, .int (zI (n + 1))), (4, .int (zI (u1 (544 + (row * 32 + c))))), (0, .ref y), (1, .int (zI row)), (3, .int (zI c))] dX6_wipe_77 rfl (by decide) rfl ?_
          refine y_iinc C 4 [(3, .int (zI (c + 1))), (2, .int (zI (n + 1))), (4, .int (zI (u1 (544 + (row * 32 + c))))), (0, .ref y), (1, .int (zI row))] dX6_wipe_80 rfl (by decide) rfl ?_
          refine y_goto C 17 dX6_wipe_83 (by decide) ?_
          refine y_lsub C [3, 4, 1, 0] (lv' := [(0, .ref y), (1, .int (zI row)), (2, .int (zI (n + 1))), (3, .int (zI (c + 1)))]) rfl ?_
          exact ih17 (n + 1) (c + 1) (zU (zU u1 (288 + (row * 32 + c)) ((u1 (544 + (row * 32 + c))) - 1)) (544 + (row * 32 + c)) 0) (by omega) (by refine ⟨?_, by omega, by omega⟩; exact zcnt_step (by omega) hn.1 (by omega)) (by first | exact wipe_step1 ⟨by omega, by omega⟩ ⟨by omega, by omega⟩ hu1 e1 (by omega) | exact wipe_step0 ⟨by omega, by omega⟩ ⟨by omega, by omega⟩ hu1 (by omega)) (by omega)
  · refine y_iconst C dX6_wipe_7 ?_
    refine hret _ _ _ _ dX6_wipe_8 ⟨u, past, np, rfl, ?_⟩
    show ((-1) = ansWipe u row) ∧ (∀ j : Int, 0 ≤ j → j < 800 → u j = vI (vRow row) (wipeU u row) u j) ∧ (∀ j : Int, 0 ≤ j → j < 800 * np → past j = vI (vRow row) (recP past u np) past j) ∧ (np = vI (vRow row) (nxS np) np)
    have hV : ¬ (vRow row) := by omega
    exact ⟨by unfold ansWipe; rw [vI_f hV], by rw [vI_f hV]; exact fun _ _ _ => rfl, by rw [vI_f hV]; exact fun _ _ _ => rfl, by rw [vI_f hV]⟩

set_option maxHeartbeats 4000000 in
set_option maxRecDepth 100000 in
theorem m_X6_leastOf {l : Launch} {D : va_G} {cA cB : ClassId} {wh : Int} (hwh : 0 ≤ wh ∧ wh ≤ 5) : MI l yX6_leastOf cX6_leastOf 1 .int { frames := 0, cells := 0, slots := 0, locals := 0 } D (zT cA cB) [.int (zI wh)] [] (fun r w => w = [] ∧ ((wh = 0 ∧ r = 6) ∨ (wh = 1 ∧ r = 2) ∨ (wh = 2 ∧ r = 0) ∨ (wh = 3 ∧ r = 0) ∨ (wh = 4 ∧ r = 20) ∨ (wh = 5 ∧ r = 10))) := by
  refine MI.of RX6 ⟨rfl, by decide +kernel⟩ (Or.inl rfl) (Nat.le_of_ble_eq_true rfl) (fun h => by cases h) ?_
  intro K C hret
  change K 0 0 _ [(0, .int (zI wh))] 0 []
  refine y_iload_n C 0 dX6_leastOf_0 rfl ?_
  rcases (show wh = 0 ∨ wh = 1 ∨ wh = 2 ∨ wh = 3 ∨ wh = 4 ∨ wh = 5 from by omega) with s_1 | s_1 | s_1 | s_1 | s_1 | s_1
  · refine y_tin C 40 0 dX6_leastOf_1 ⟨by omega, by omega⟩ ⟨by omega, by omega⟩ (by omega) rfl (by decide) ?_
    refine y_bipush C dX6_leastOf_40 (by decide +kernel) ?_
    refine hret _ _ _ _ dX6_leastOf_42 ⟨rfl, ?_⟩
    show ((wh = 0 ∧ 6 = 6) ∨ (wh = 1 ∧ 6 = 2) ∨ (wh = 2 ∧ 6 = 0) ∨ (wh = 3 ∧ 6 = 0) ∨ (wh = 4 ∧ 6 = 20) ∨ (wh = 5 ∧ 6 = 10))
    omega
  · refine y_tin C 43 1 dX6_leastOf_1 ⟨by omega, by omega⟩ ⟨by omega, by omega⟩ (by omega) rfl (by decide) ?_
    refine y_iconst C dX6_leastOf_43 ?_
    refine hret _ _ _ _ dX6_leastOf_44 ⟨rfl, ?_⟩
    show ((wh = 0 ∧ 2 = 6) ∨ (wh = 1 ∧ 2 = 2) ∨ (wh = 2 ∧ 2 = 0) ∨ (wh = 3 ∧ 2 = 0) ∨ (wh = 4 ∧ 2 = 20) ∨ (wh = 5 ∧ 2 = 10))
    omega
  · refine y_tin C 51 2 dX6_leastOf_1 ⟨by omega, by omega⟩ ⟨by omega, by omega⟩ (by omega) rfl (by decide) ?_
    refine y_iconst C dX6_leastOf_51 ?_
    refine hret _ _ _ _ dX6_leastOf_52 ⟨rfl, ?_⟩
    show ((wh = 0 ∧ 0 = 6) ∨ (wh = 1 ∧ 0 = 2) ∨ (wh = 2 ∧ 0 = 0) ∨ (wh = 3 ∧ 0 = 0) ∨ (wh = 4 ∧ 0 = 20) ∨ (wh = 5 ∧ 0 = 10))
    omega
  · refine y_tin C 51 3 dX6_leastOf_1 ⟨by omega, by omega⟩ ⟨by omega, by omega⟩ (by omega) rfl (by decide) ?_
    refine y_iconst C dX6_leastOf_51 ?_
    refine hret _ _ _ _ dX6_leastOf_52 ⟨rfl, ?_⟩
    show ((wh = 0 ∧ 0 = 6) ∨ (wh = 1 ∧ 0 = 2) ∨ (wh = 2 ∧ 0 = 0) ∨ (wh = 3 ∧ 0 = 0) ∨ (wh = 4 ∧ 0 = 20) ∨ (wh = 5 ∧ 0 = 10))
    omega
  · refine y_tin C 45 4 dX6_leastOf_1 ⟨by omega, by omega⟩ ⟨by omega, by omega⟩ (by omega) rfl (by decide) ?_
    refine y_bipush C dX6_leastOf_45 (by decide +kernel) ?_
    refine hret _ _ _ _ dX6_leastOf_47 ⟨rfl, ?_⟩
    show ((wh = 0 ∧ 20 = 6) ∨ (wh = 1 ∧ 20 = 2) ∨ (wh = 2 ∧ 20 = 0) ∨ (wh = 3 ∧ 20 = 0) ∨ (wh = 4 ∧ 20 = 20) ∨ (wh = 5 ∧ 20 = 10))
    omega
  · refine y_tin C 48 5 dX6_leastOf_1 ⟨by omega, by omega⟩ ⟨by omega, by omega⟩ (by omega) rfl (by decide) ?_
    refine y_bipush C dX6_leastOf_48 (by decide +kernel) ?_
    refine hret _ _ _ _ dX6_leastOf_50 ⟨rfl, ?_⟩
    show ((wh = 0 ∧ 10 = 6) ∨ (wh = 1 ∧ 10 = 2) ∨ (wh = 2 ∧ 10 = 0) ∨ (wh = 3 ∧ 10 = 0) ∨ (wh = 4 ∧ 10 = 20) ∨ (wh = 5 ∧ 10 = 10))
    omega

set_option maxHeartbeats 4000000 in
set_option maxRecDepth 100000 in
theorem m_X6_mostOf {l : Launch} {D : va_G} {cA cB : ClassId} {wh : Int} (hwh : 0 ≤ wh ∧ wh ≤ 5) : MI l yX6_mostOf cX6_mostOf 1 .int { frames := 0, cells := 0, slots := 0, locals := 0 } D (zT cA cB) [.int (zI wh)] [] (fun r w => w = [] ∧ ((wh = 0 ∧ r = 16) ∨ (wh = 1 ∧ r = 8) ∨ (wh = 2 ∧ r = 3) ∨ (wh = 3 ∧ r = 1) ∨ (wh = 4 ∧ r = 99) ∨ (wh = 5 ∧ r = 400))) := by
  refine MI.of RX6 ⟨rfl, by decide +kernel⟩ (Or.inl rfl) (Nat.le_of_ble_eq_true rfl) (fun h => by cases h) ?_
  intro K C hret
  change K 0 0 _ [(0, .int (zI wh))] 0 []
  refine y_iload_n C 0 dX6_mostOf_0 rfl ?_
  rcases (show wh = 0 ∨ wh = 1 ∨ wh = 2 ∨ wh = 3 ∨ wh = 4 ∨ (wh < 0 ∨ 4 < wh) from by omega) with s_1 | s_1 | s_1 | s_1 | s_1 | s_1
  · refine y_tin C 36 0 dX6_mostOf_1 ⟨by omega, by omega⟩ ⟨by omega, by omega⟩ (by omega) rfl (by decide) ?_
    refine y_bipush C dX6_mostOf_36 (by decide +kernel) ?_
    refine hret _ _ _ _ dX6_mostOf_38 ⟨rfl, ?_⟩
    show ((wh = 0 ∧ 16 = 16) ∨ (wh = 1 ∧ 16 = 8) ∨ (wh = 2 ∧ 16 = 3) ∨ (wh = 3 ∧ 16 = 1) ∨ (wh = 4 ∧ 16 = 99) ∨ (wh = 5 ∧ 16 = 400))
    omega
  · refine y_tin C 39 1 dX6_mostOf_1 ⟨by omega, by omega⟩ ⟨by omega, by omega⟩ (by omega) rfl (by decide) ?_
    refine y_bipush C dX6_mostOf_39 (by decide +kernel) ?_
    refine hret _ _ _ _ dX6_mostOf_41 ⟨rfl, ?_⟩
    show ((wh = 0 ∧ 8 = 16) ∨ (wh = 1 ∧ 8 = 8) ∨ (wh = 2 ∧ 8 = 3) ∨ (wh = 3 ∧ 8 = 1) ∨ (wh = 4 ∧ 8 = 99) ∨ (wh = 5 ∧ 8 = 400))
    omega
  · refine y_tin C 42 2 dX6_mostOf_1 ⟨by omega, by omega⟩ ⟨by omega, by omega⟩ (by omega) rfl (by decide) ?_
    refine y_iconst C dX6_mostOf_42 ?_
    refine hret _ _ _ _ dX6_mostOf_43 ⟨rfl, ?_⟩
    show ((wh = 0 ∧ 3 = 16) ∨ (wh = 1 ∧ 3 = 8) ∨ (wh = 2 ∧ 3 = 3) ∨ (wh = 3 ∧ 3 = 1) ∨ (wh = 4 ∧ 3 = 99) ∨ (wh = 5 ∧ 3 = 400))
    omega
  · refine y_tin C 44 3 dX6_mostOf_1 ⟨by omega, by omega⟩ ⟨by omega, by omega⟩ (by omega) rfl (by decide) ?_
    refine y_iconst C dX6_mostOf_44 ?_
    refine hret _ _ _ _ dX6_mostOf_45 ⟨rfl, ?_⟩
    show ((wh = 0 ∧ 1 = 16) ∨ (wh = 1 ∧ 1 = 8) ∨ (wh = 2 ∧ 1 = 3) ∨ (wh = 3 ∧ 1 = 1) ∨ (wh = 4 ∧ 1 = 99) ∨ (wh = 5 ∧ 1 = 400))
    omega
  · refine y_tin C 46 4 dX6_mostOf_1 ⟨by omega, by omega⟩ ⟨by omega, by omega⟩ (by omega) rfl (by decide) ?_
    refine y_bipush C dX6_mostOf_46 (by decide +kernel) ?_
    refine hret _ _ _ _ dX6_mostOf_48 ⟨rfl, ?_⟩
    show ((wh = 0 ∧ 99 = 16) ∨ (wh = 1 ∧ 99 = 8) ∨ (wh = 2 ∧ 99 = 3) ∨ (wh = 3 ∧ 99 = 1) ∨ (wh = 4 ∧ 99 = 99) ∨ (wh = 5 ∧ 99 = 400))
    omega
  · refine y_tout C 49 dX6_mostOf_1 ⟨by omega, by omega⟩ (by omega) (by decide) ?_
    refine y_sipush C dX6_mostOf_49 (by decide +kernel) ?_
    refine hret _ _ _ _ dX6_mostOf_52 ⟨rfl, ?_⟩
    show ((wh = 0 ∧ 400 = 16) ∨ (wh = 1 ∧ 400 = 8) ∨ (wh = 2 ∧ 400 = 3) ∨ (wh = 3 ∧ 400 = 1) ∨ (wh = 4 ∧ 400 = 99) ∨ (wh = 5 ∧ 400 = 400))
    omega

set_option maxHeartbeats 4000000 in
set_option maxRecDepth 100000 in
theorem m_X6_set {l : Launch} {D : va_G} {cA cB : ClassId} {y ms ma mp mk md me mo : Nat} {np ik ml sp wr tp bt lf rg dp : Int} {u past : Int → Int} {wh z : Int} (hzwh : zR wh) (hzz : zR z) (hnp : 0 ≤ np ∧ np ≤ 4) : MI l yX6_set cX6_set 4 .int { frames := 1, cells := 0, slots := 0, locals := 22 } D (zT cA cB) [.ref y, .int (zI wh), .int (zI z)] [cO y 6 [.ref ms, .ref ma, .ref mp, .int (zI np), .ref mk, .int (zI ik), .ref md, .int (zI ml), .ref me, .ref mo, .int (zI sp), .int (zI wr), .int (zI tp), .int (zI bt), .int (zI lf), .int (zI rg), .int (zI dp)], cI cA ms 800 u, cI cA mp 3200 past] (fun r w => ∃ (u2 : Int → Int), ∃ (past2 : Int → Int), ∃ (np2 : Int), w = [cO y 6 [.ref ms, .ref ma, .ref mp, .int (zI np2), .ref mk, .int (zI ik), .ref md, .int (zI ml), .ref me, .ref mo, .int (zI sp), .int (zI wr), .int (zI tp), .int (zI bt), .int (zI lf), .int (zI rg), .int (zI dp)], cI cA ms 800 u2, cI cA mp 3200 past2] ∧ (r = ansSet u wh z) ∧ (∀ j : Int, 0 ≤ j → j < 800 → u2 j = vI (vSet wh z) (zU u wh z) u j) ∧ (∀ j : Int, 0 ≤ j → j < 800 * np2 → past2 j = vI (vSet wh z) (recP past u np) past j) ∧ (np2 = vI (vSet wh z) (nxS np) np)) := by
  refine MI.of RX6 ⟨rfl, by decide +kernel⟩ (Or.inl rfl) (Nat.le_of_ble_eq_true rfl) (fun h => by cases h) ?_
  intro K C hret
  change K 0 0 _ [(0, .ref y), (1, .int (zI wh)), (2, .int (zI z))] 0 []
  have hzwh1 := hzwh.1
  have hzwh2 := hzwh.2
  have hzz1 := hzz.1
  have hzz2 := hzz.2
  refine y_iload_n C 1 dX6_set_0 rfl ?_
  refine y_iconst C dX6_set_1 ?_
  refine y_iconst C dX6_set_2 ?_
  refine y_pcalls C (m_X6_in (l := l) (D := D) (cA := cA) (cB := cB) (vv := wh) (lo := 0) (hi := 5) (by first | assumption | exact ⟨by omega, by omega⟩) (by first | assumption | exact ⟨by omega, by omega⟩) (by first | assumption | exact ⟨by omega, by omega⟩)) lk_X6_31 [] [0, 1, 2] [0, 1, 2] ⟨rfl, rfl, by decide, by decide, by decide⟩ ⟨rfl, by decide⟩ dX6_set_3 rfl rfl ⟨by exact Nat.le_of_ble_eq_true rfl, by exact Nat.le_of_ble_eq_true rfl, rfl, rfl, by exact Nat.le_of_ble_eq_true rfl, by exact Nat.le_of_ble_eq_true rfl, by exact Nat.le_of_ble_eq_true rfl⟩ (fun r_2 h_1 => ?_)
  refine y_if_eq C 24 dX6_set_6 (by decide) ⟨by omega, by omega⟩ (fun c_3 => ?_) (fun c_3 => ?_)
  · refine y_iconst C dX6_set_24 ?_
    refine hret _ _ _ _ dX6_set_25 ⟨u, past, np, rfl, ?_⟩
    show ((-1) = ansSet u wh z) ∧ (∀ j : Int, 0 ≤ j → j < 800 → u j = vI (vSet wh z) (zU u wh z) u j) ∧ (∀ j : Int, 0 ≤ j → j < 800 * np → past j = vI (vSet wh z) (recP past u np) past j) ∧ (np = vI (vSet wh z) (nxS np) np)
    have hV : ¬ (vSet wh z) := by omega
    exact ⟨by unfold ansSet; rw [vI_f hV], by rw [vI_f hV]; exact fun _ _ _ => rfl, by rw [vI_f hV]; exact fun _ _ _ => rfl, by rw [vI_f hV]⟩
  · refine y_iload_n C 2 dX6_set_9 rfl ?_
    refine y_iload_n C 1 dX6_set_10 rfl ?_
    refine y_pcalls C (m_X6_leastOf (l := l) (D := D) (cA := cA) (cB := cB) (wh := wh) (by first | assumption | omega | exact ⟨by omega, by omega⟩)) lk_X6_97 [] [0, 1, 2] [0, 1, 2] ⟨rfl, rfl, by decide, by decide, by decide⟩ ⟨rfl, by decide⟩ dX6_set_11 rfl rfl ⟨by exact Nat.le_of_ble_eq_true rfl, by exact Nat.le_of_ble_eq_true rfl, rfl, rfl, by exact Nat.le_of_ble_eq_true rfl, by exact Nat.le_of_ble_eq_true rfl, by exact Nat.le_of_ble_eq_true rfl⟩ (fun r_5 h_4 => ?_)
    refine y_iload_n C 1 dX6_set_14 rfl ?_
    refine y_pcalls C (m_X6_mostOf (l := l) (D := D) (cA := cA) (cB := cB) (wh := wh) (by first | assumption | omega | exact ⟨by omega, by omega⟩)) lk_X6_100 [] [0, 1, 2] [0, 1, 2] ⟨rfl, rfl, by decide, by decide, by decide⟩ ⟨rfl, by decide⟩ dX6_set_15 rfl rfl ⟨by exact Nat.le_of_ble_eq_true rfl, by exact Nat.le_of_ble_eq_true rfl, rfl, rfl, by exact Nat.le_of_ble_eq_true rfl, by exact Nat.le_of_ble_eq_true rfl, by exact Nat.le_of_ble_eq_true rfl⟩ (fun r_7 h_6 => ?_)
    refine y_pcalls C (m_X6_in (l := l) (D := D) (cA := cA) (cB := cB) (vv := z) (lo := r_5) (hi := r_7) (by first | assumption | exact ⟨by omega, by omega⟩) (by first | assumption | exact ⟨by omega, by omega⟩) (by first | assumption | exact ⟨by omega, by omega⟩)) lk_X6_31 [] [0, 1, 2] [0, 1, 2] ⟨rfl, rfl, by decide, by decide, by decide⟩ ⟨rfl, by decide⟩ dX6_set_18 rfl rfl ⟨by exact Nat.le_of_ble_eq_true rfl, by exact Nat.le_of_ble_eq_true rfl, rfl, rfl, by exact Nat.le_of_ble_eq_true rfl, by exact Nat.le_of_ble_eq_true rfl, by exact Nat.le_of_ble_eq_true rfl⟩ (fun r_9 h_8 => ?_)
    refine y_if_ne C 26 dX6_set_21 (by decide) ⟨by omega, by omega⟩ (fun c_10 => ?_) (fun c_10 => ?_)
    · refine y_aload_n C 0 dX6_set_26 rfl ?_
      refine y_mcallv C (m_X6_records (l := l) (D := D) (cA := cA) (cB := cB) (y := y) (ms := ms) (ma := ma) (mp := mp) (mk := mk) (md := md) (me := me) (mo := mo) (np := np) (ik := ik) (ml := ml) (sp := sp) (wr := wr) (tp := tp) (bt := bt) (lf := lf) (rg := rg) (dp := dp) (u := u) (past := past) (by first | assumption | omega | exact ⟨by omega, by omega⟩)) lk_X6_81 [0, 1, 2] [] ⟨rfl, rfl, by decide, by decide, by decide⟩ (jb := 0) rfl rfl dX6_set_27 rfl rfl ⟨by exact Nat.le_of_ble_eq_true rfl, by exact Nat.le_of_ble_eq_true rfl, rfl, rfl, by exact Nat.le_of_ble_eq_true rfl, by exact Nat.le_of_ble_eq_true rfl, by exact Nat.le_of_ble_eq_true rfl⟩ (fun w_15 h_11 => ?_)
      obtain ⟨past2_13, np2_14, rfl, h_11⟩ := h_11
      refine ⟨[0, 1, 2], [cO y 6 [.ref ms, .ref ma, .ref mp, .int (zI np2_14), .ref mk, .int (zI ik), .ref md, .int (zI ml), .ref me, .ref mo, .int (zI sp), .int (zI wr), .int (zI tp), .int (zI bt), .int (zI lf), .int (zI rg), .int (zI dp)], cI cA ms 800 u, cI cA mp 3200 past2_13], ⟨rfl, by decide⟩, ?_⟩
      obtain ⟨hr1, hr2⟩ := h_11
      refine y_aload_n C 0 dX6_set_30 rfl ?_
      refine y_get C fg_X6_7 0 dX6_set_31 rfl rfl ?_
      refine y_iload_n C 1 dX6_set_34 rfl ?_
      refine y_iald C 1 0 dX6_set_35 rfl rfl ⟨by omega, by omega, by omega⟩ ?_
      refine y_istore_n C [(3, .int (zI (u wh))), (0, .ref y), (1, .int (zI wh)), (2, .int (zI z))] dX6_set_36 (by decide) rfl ?_
      refine y_aload_n C 1 dX6_set_37 rfl ?_
      refine y_get C fg_X6_7 0 dX6_set_38 rfl rfl ?_
      refine y_iload_n C 2 dX6_set_41 rfl ?_
      refine y_iload_n C 3 dX6_set_42 rfl ?_
      refine y_iast C 1 0 [cO y 6 [.ref ms, .ref ma, .ref mp, .int (zI np2_14), .ref mk, .int (zI ik), .ref md, .int (zI ml), .ref me, .ref mo, .int (zI sp), .int (zI wr), .int (zI tp), .int (zI bt), .int (zI lf), .int (zI rg), .int (zI dp)], cI cA ms 800 (zU u wh z), cI cA mp 3200 past2_13] dX6_set_43 rfl rfl ⟨by omega, by omega, by omega⟩ rfl ?_
      refine y_iload_n C 0 dX6_set_44 rfl ?_
      refine hret _ _ _ _ dX6_set_45 ⟨(zU u wh z), past2_13, np2_14, rfl, ?_⟩
      show ((u wh) = ansSet u wh z) ∧ (∀ j : Int, 0 ≤ j → j < 800 → (zU u wh z) j = vI (vSet wh z) (zU u wh z) u j) ∧ (∀ j : Int, 0 ≤ j → j < 800 * np2_14 → past2_13 j = vI (vSet wh z) (recP past u np) past j) ∧ (np2_14 = vI (vSet wh z) (nxS np) np)
      have hV : vSet wh z := by omega
      refine ⟨?_, by rw [vI_t hV]; exact fun _ _ _ => rfl, by rw [vI_t hV]; exact hr1, by rw [vI_t hV]; exact hr2⟩
      unfold ansSet
      rw [vI_t hV]
      first | done | rfl
    · refine y_iconst C dX6_set_24 ?_
      refine hret _ _ _ _ dX6_set_25 ⟨u, past, np, rfl, ?_⟩
      show ((-1) = ansSet u wh z) ∧ (∀ j : Int, 0 ≤ j → j < 800 → u j = vI (vSet wh z) (zU u wh z) u j) ∧ (∀ j : Int, 0 ≤ j → j < 800 * np → past j = vI (vSet wh z) (recP past u np) past j) ∧ (np = vI (vSet wh z) (nxS np) np)
      have hV : ¬ (vSet wh z) := by omega
      exact ⟨by unfold ansSet; rw [vI_f hV], by rw [vI_f hV]; exact fun _ _ _ => rfl, by rw [vI_f hV]; exact fun _ _ _ => rfl, by rw [vI_f hV]⟩

set_option maxHeartbeats 4000000 in
set_option maxRecDepth 100000 in
theorem m_X6_lot {l : Launch} {D : va_G} {cA cB : ClassId} {y ms ma mp mk md me mo : Nat} {np ik ml sp wr tp bt lf rg dp : Int} {u past : Int → Int} {z : Int} (hzz : zR z) (hnp : 0 ≤ np ∧ np ≤ 4) : MI l yX6_lot cX6_lot 3 .int { frames := 1, cells := 0, slots := 0, locals := 22 } D (zT cA cB) [.ref y, .int (zI z)] [cO y 6 [.ref ms, .ref ma, .ref mp, .int (zI np), .ref mk, .int (zI ik), .ref md, .int (zI ml), .ref me, .ref mo, .int (zI sp), .int (zI wr), .int (zI tp), .int (zI bt), .int (zI lf), .int (zI rg), .int (zI dp)], cI cA ms 800 u, cI cA mp 3200 past] (fun r w => ∃ (u2 : Int → Int), ∃ (past2 : Int → Int), ∃ (np2 : Int), w = [cO y 6 [.ref ms, .ref ma, .ref mp, .int (zI np2), .ref mk, .int (zI ik), .ref md, .int (zI ml), .ref me, .ref mo, .int (zI sp), .int (zI wr), .int (zI tp), .int (zI bt), .int (zI lf), .int (zI rg), .int (zI dp)], cI cA ms 800 u2, cI cA mp 3200 past2] ∧ (r = ansLot u z) ∧ (∀ j : Int, 0 ≤ j → j < 800 → u2 j = vI (vLot z) (zU u 6 z) u j) ∧ (∀ j : Int, 0 ≤ j → j < 800 * np2 → past2 j = vI (vLot z) (recP past u np) past j) ∧ (np2 = vI (vLot z) (nxS np) np)) := by
  refine MI.of RX6 ⟨rfl, by decide +kernel⟩ (Or.inl rfl) (Nat.le_of_ble_eq_true rfl) (fun h => by cases h) ?_
  intro K C hret
  change K 0 0 _ [(0, .ref y), (1, .int (zI z))] 0 []
  have hzz1 := hzz.1
  have hzz2 := hzz.2
  refine y_iload_n C 1 dX6_lot_0 rfl ?_
  refine y_iconst C dX6_lot_1 ?_
  refine y_sipush C dX6_lot_2 (by decide +kernel) ?_
  refine y_pcalls C (m_X6_in (l := l) (D := D) (cA := cA) (cB := cB) (vv := z) (lo := 0) (hi := 9999) (by first | assumption | exact ⟨by omega, by omega⟩) (by first | assumption | exact ⟨by omega, by omega⟩) (by first | assumption | exact ⟨by omega, by omega⟩)) lk_X6_31 [] [0, 1, 2] [0, 1, 2] ⟨rfl, rfl, by decide, by decide, by decide⟩ ⟨rfl, by decide⟩ dX6_lot_5 rfl rfl ⟨by exact Nat.le_of_ble_eq_true rfl, by exact Nat.le_of_ble_eq_true rfl, rfl, rfl, by exact Nat.le_of_ble_eq_true rfl, by exact Nat.le_of_ble_eq_true rfl, by exact Nat.le_of_ble_eq_true rfl⟩ (fun r_2 h_1 => ?_)
  refine y_if_ne C 13 dX6_lot_8 (by decide) ⟨by omega, by omega⟩ (fun c_3 => ?_) (fun c_3 => ?_)
  · refine y_aload_n C 0 dX6_lot_13 rfl ?_
    refine y_mcallv C (m_X6_records (l := l) (D := D) (cA := cA) (cB := cB) (y := y) (ms := ms) (ma := ma) (mp := mp) (mk := mk) (md := md) (me := me) (mo := mo) (np := np) (ik := ik) (ml := ml) (sp := sp) (wr := wr) (tp := tp) (bt := bt) (lf := lf) (rg := rg) (dp := dp) (u := u) (past := past) (by first | assumption | omega | exact ⟨by omega, by omega⟩)) lk_X6_81 [0, 1, 2] [] ⟨rfl, rfl, by decide, by decide, by decide⟩ (jb := 0) rfl rfl dX6_lot_14 rfl rfl ⟨by exact Nat.le_of_ble_eq_true rfl, by exact Nat.le_of_ble_eq_true rfl, rfl, rfl, by exact Nat.le_of_ble_eq_true rfl, by exact Nat.le_of_ble_eq_true rfl, by exact Nat.le_of_ble_eq_true rfl⟩ (fun w_8 h_4 => ?_)
    obtain ⟨past2_6, np2_7, rfl, h_4⟩ := h_4
    refine ⟨[0, 1, 2], [cO y 6 [.ref ms, .ref ma, .ref mp, .int (zI np2_7), .ref mk, .int (zI ik), .ref md, .int (zI ml), .ref me, .ref mo, .int (zI sp), .int (zI wr), .int (zI tp), .int (zI bt), .int (zI lf), .int (zI rg), .int (zI dp)], cI cA ms 800 u, cI cA mp 3200 past2_6], ⟨rfl, by decide⟩, ?_⟩
    obtain ⟨hr1, hr2⟩ := h_4
    refine y_aload_n C 0 dX6_lot_17 rfl ?_
    refine y_get C fg_X6_7 0 dX6_lot_18 rfl rfl ?_
    refine y_bipush C dX6_lot_21 (by decide +kernel) ?_
    refine y_iald C 1 0 dX6_lot_23 rfl rfl ⟨by omega, by omega, by omega⟩ ?_
    refine y_istore_n C [(2, .int (zI (u 6))), (0, .ref y), (1, .int (zI z))] dX6_lot_24 (by decide) rfl ?_
    refine y_aload_n C 1 dX6_lot_25 rfl ?_
    refine y_get C fg_X6_7 0 dX6_lot_26 rfl rfl ?_
    refine y_bipush C dX6_lot_29 (by decide +kernel) ?_
    refine y_iload_n C 2 dX6_lot_31 rfl ?_
    refine y_iast C 1 0 [cO y 6 [.ref ms, .ref ma, .ref mp, .int (zI np2_7), .ref mk, .int (zI ik), .ref md, .int (zI ml), .ref me, .ref mo, .int (zI sp), .int (zI wr), .int (zI tp), .int (zI bt), .int (zI lf), .int (zI rg), .int (zI dp)], cI cA ms 800 (zU u 6 z), cI cA mp 3200 past2_6] dX6_lot_32 rfl rfl ⟨by omega, by omega, by omega⟩ rfl ?_
    refine y_iload_n C 0 dX6_lot_33 rfl ?_
    refine hret _ _ _ _ dX6_lot_34 ⟨(zU u 6 z), past2_6, np2_7, rfl, ?_⟩
    show ((u 6) = ansLot u z) ∧ (∀ j : Int, 0 ≤ j → j < 800 → (zU u 6 z) j = vI (vLot z) (zU u 6 z) u j) ∧ (∀ j : Int, 0 ≤ j → j < 800 * np2_7 → past2_6 j = vI (vLot z) (recP past u np) past j) ∧ (np2_7 = vI (vLot z) (nxS np) np)
    have hV : vLot z := by omega
    refine ⟨?_, by rw [vI_t hV]; exact fun _ _ _ => rfl, by rw [vI_t hV]; exact hr1, by rw [vI_t hV]; exact hr2⟩
    unfold ansLot
    rw [vI_t hV]
    first | done | rfl
  · refine y_iconst C dX6_lot_11 ?_
    refine hret _ _ _ _ dX6_lot_12 ⟨u, past, np, rfl, ?_⟩
    show ((-1) = ansLot u z) ∧ (∀ j : Int, 0 ≤ j → j < 800 → u j = vI (vLot z) (zU u 6 z) u j) ∧ (∀ j : Int, 0 ≤ j → j < 800 * np → past j = vI (vLot z) (recP past u np) past j) ∧ (np = vI (vLot z) (nxS np) np)
    have hV : ¬ (vLot z) := by omega
    exact ⟨by unfold ansLot; rw [vI_f hV], by rw [vI_f hV]; exact fun _ _ _ => rfl, by rw [vI_f hV]; exact fun _ _ _ => rfl, by rw [vI_f hV]⟩

set_option maxHeartbeats 4000000 in
set_option maxRecDepth 100000 in
theorem m_X6_unwind {l : Launch} {D : va_G} {cA cB : ClassId} {y ms ma mp mk md me mo : Nat} {np ik ml sp wr tp bt lf rg dp : Int} {u past : Int → Int} (hnp : 0 ≤ np ∧ np ≤ 4) (hU : UK u) : MI l yX6_unwind cX6_unwind 2 .int { frames := 1, cells := 0, slots := 0, locals := 21 } D (zT cA cB) [.ref y] [cO y 6 [.ref ms, .ref ma, .ref mp, .int (zI np), .ref mk, .int (zI ik), .ref md, .int (zI ml), .ref me, .ref mo, .int (zI sp), .int (zI wr), .int (zI tp), .int (zI bt), .int (zI lf), .int (zI rg), .int (zI dp)], cI cA ms 800 u, cI cA mp 3200 past] (fun r w => ∃ (u2 : Int → Int), ∃ (past2 : Int → Int), ∃ (np2 : Int), w = [cO y 6 [.ref ms, .ref ma, .ref mp, .int (zI np2), .ref mk, .int (zI ik), .ref md, .int (zI ml), .ref me, .ref mo, .int (zI sp), .int (zI wr), .int (zI tp), .int (zI bt), .int (zI lf), .int (zI rg), .int (zI dp)], cI cA ms 800 u2, cI cA mp 3200 past2] ∧ (r = ansUnw u) ∧ (∀ j : Int, 0 ≤ j → j < 800 → u2 j = vI (vUnw u) (zU u 7 0) u j) ∧ (∀ j : Int, 0 ≤ j → j < 800 * np2 → past2 j = vI (vUnw u) (recP past u np) past j) ∧ (np2 = vI (vUnw u) (nxS np) np)) := by
  refine MI.of RX6 ⟨rfl, by decide +kernel⟩ (Or.inl rfl) (Nat.le_of_ble_eq_true rfl) (fun h => by cases h) ?_
  intro K C hret
  change K 0 0 _ [(0, .ref y)] 0 []
  have hul := hU.len
  refine y_aload_n C 0 dX6_unwind_0 rfl ?_
  refine y_get C fg_X6_7 0 dX6_unwind_1 rfl rfl ?_
  refine y_bipush C dX6_unwind_4 (by decide +kernel) ?_
  refine y_iald C 1 0 dX6_unwind_6 rfl rfl ⟨by omega, by omega, by omega⟩ ?_
  refine y_if_ne C 13 dX6_unwind_7 (by decide) ⟨by omega, by omega⟩ (fun c_1 => ?_) (fun c_1 => ?_)
  · refine y_aload_n C 0 dX6_unwind_13 rfl ?_
    refine y_mcallv C (m_X6_records (l := l) (D := D) (cA := cA) (cB := cB) (y := y) (ms := ms) (ma := ma) (mp := mp) (mk := mk) (md := md) (me := me) (mo := mo) (np := np) (ik := ik) (ml := ml) (sp := sp) (wr := wr) (tp := tp) (bt := bt) (lf := lf) (rg := rg) (dp := dp) (u := u) (past := past) (by first | assumption | omega | exact ⟨by omega, by omega⟩)) lk_X6_81 [0, 1, 2] [] ⟨rfl, rfl, by decide, by decide, by decide⟩ (jb := 0) rfl rfl dX6_unwind_14 rfl rfl ⟨by exact Nat.le_of_ble_eq_true rfl, by exact Nat.le_of_ble_eq_true rfl, rfl, rfl, by exact Nat.le_of_ble_eq_true rfl, by exact Nat.le_of_ble_eq_true rfl, by exact Nat.le_of_ble_eq_true rfl⟩ (fun w_6 h_2 => ?_)
    obtain ⟨past2_4, np2_5, rfl, h_2⟩ := h_2
    refine ⟨[0, 1, 2], [cO y 6 [.ref ms, .ref ma, .ref mp, .int (zI np2_5), .ref mk, .int (zI ik), .ref md, .int (zI ml), .ref me, .ref mo, .int (zI sp), .int (zI wr), .int (zI tp), .int (zI bt), .int (zI lf), .int (zI rg), .int (zI dp)], cI cA ms 800 u, cI cA mp 3200 past2_4], ⟨rfl, by decide⟩, ?_⟩
    obtain ⟨hr1, hr2⟩ := h_2
    refine y_aload_n C 0 dX6_unwind_17 rfl ?_
    refine y_get C fg_X6_7 0 dX6_unwind_18 rfl rfl ?_
    refine y_bipush C dX6_unwind_21 (by decide +kernel) ?_
    refine y_iald C 1 0 dX6_unwind_23 rfl rfl ⟨by omega, by omega, by omega⟩ ?_
    refine y_istore_n C [(1, .int (zI (u 7))), (0, .ref y)] dX6_unwind_24 (by decide) rfl ?_
    refine y_aload_n C 1 dX6_unwind_25 rfl ?_
    refine y_get C fg_X6_7 0 dX6_unwind_26 rfl rfl ?_
    refine y_bipush C dX6_unwind_29 (by decide +kernel) ?_
    refine y_iconst C dX6_unwind_31 ?_
    refine y_iast C 1 0 [cO y 6 [.ref ms, .ref ma, .ref mp, .int (zI np2_5), .ref mk, .int (zI ik), .ref md, .int (zI ml), .ref me, .ref mo, .int (zI sp), .int (zI wr), .int (zI tp), .int (zI bt), .int (zI lf), .int (zI rg), .int (zI dp)], cI cA ms 800 (zU u 7 0), cI cA mp 3200 past2_4] dX6_unwind_32 rfl rfl ⟨by omega, by omega, by omega⟩ rfl ?_
    refine y_iload_n C 0 dX6_unwind_33 rfl ?_
    refine hret _ _ _ _ dX6_unwind_34 ⟨(zU u 7 0), past2_4, np2_5, rfl, ?_⟩
    show ((u 7) = ansUnw u) ∧ (∀ j : Int, 0 ≤ j → j < 800 → (zU u 7 0) j = vI (vUnw u) (zU u 7 0) u j) ∧ (∀ j : Int, 0 ≤ j → j < 800 * np2_5 → past2_4 j = vI (vUnw u) (recP past u np) past j) ∧ (np2_5 = vI (vUnw u) (nxS np) np)
    have hV : vUnw u := by omega
    refine ⟨?_, by rw [vI_t hV]; exact fun _ _ _ => rfl, by rw [vI_t hV]; exact hr1, by rw [vI_t hV]; exact hr2⟩
    unfold ansUnw
    rw [vI_t hV]
    first | done | rfl
  · refine y_bipush C dX6_unwind_10 (by decide +kernel) ?_
    refine hret _ _ _ _ dX6_unwind_12 ⟨u, past, np, rfl, ?_⟩
    show ((-2) = ansUnw u) ∧ (∀ j : Int, 0 ≤ j → j < 800 → u j = vI (vUnw u) (zU u 7 0) u j) ∧ (∀ j : Int, 0 ≤ j → j < 800 * np → past j = vI (vUnw u) (recP past u np) past j) ∧ (np = vI (vUnw u) (nxS np) np)
    have hV : ¬ (vUnw u) := by omega
    exact ⟨by unfold ansUnw; rw [vI_f hV], by rw [vI_f hV]; exact fun _ _ _ => rfl, by rw [vI_f hV]; exact fun _ _ _ => rfl, by rw [vI_f hV]⟩

set_option maxHeartbeats 4000000 in
set_option maxRecDepth 100000 in
theorem m_X6_append {l : Launch} {D : va_G} {cA cB : ClassId} {y ms ma mp mk md me mo : Nat} {np ik ml sp wr tp bt lf rg dp : Int} {cd : Int → Int} {ch : Int} (hzch : zR ch) (hml : 0 ≤ ml ∧ ml ≤ 80) : MI l yX6_append cX6_append 2 .int { frames := 1, cells := 0, slots := 0, locals := 22 } D (zT cA cB) [.ref y, .int (zI ch)] [cO y 6 [.ref ms, .ref ma, .ref mp, .int (zI np), .ref mk, .int (zI ik), .ref md, .int (zI ml), .ref me, .ref mo, .int (zI sp), .int (zI wr), .int (zI tp), .int (zI bt), .int (zI lf), .int (zI rg), .int (zI dp)], cI cA md 80 cd] (fun r w => ∃ (ml2 : Int), ∃ (cd2 : Int → Int), w = [cO y 6 [.ref ms, .ref ma, .ref mp, .int (zI np), .ref mk, .int (zI ik), .ref md, .int (zI ml2), .ref me, .ref mo, .int (zI sp), .int (zI wr), .int (zI tp), .int (zI bt), .int (zI lf), .int (zI rg), .int (zI dp)], cI cA md 80 cd2] ∧ (r = ansApp ml ch) ∧ (ml2 = vI (vApp ml ch) (ml + 1) ml) ∧ (cd2 = vI (vApp ml ch) (zU cd ml ch) cd)) := by
  refine MI.of RX6 ⟨rfl, by decide +kernel⟩ (Or.inl rfl) (Nat.le_of_ble_eq_true rfl) (fun h => by cases h) ?_
  intro K C hret
  change K 0 0 _ [(0, .ref y), (1, .int (zI ch))] 0 []
  have hzch1 := hzch.1
  have hzch2 := hzch.2
  refine y_iload_n C 1 dX6_append_0 rfl ?_
  refine y_bipush C dX6_append_1 (by decide +kernel) ?_
  refine y_bipush C dX6_append_3 (by decide +kernel) ?_
  refine y_pcalls C (m_X6_in (l := l) (D := D) (cA := cA) (cB := cB) (vv := ch) (lo := 33) (hi := 126) (by first | assumption | exact ⟨by omega, by omega⟩) (by first | assumption | exact ⟨by omega, by omega⟩) (by first | assumption | exact ⟨by omega, by omega⟩)) lk_X6_31 [] [0, 1] [0, 1] ⟨rfl, rfl, by decide, by decide, by decide⟩ ⟨rfl, by decide⟩ dX6_append_5 rfl rfl ⟨by exact Nat.le_of_ble_eq_true rfl, by exact Nat.le_of_ble_eq_true rfl, rfl, rfl, by exact Nat.le_of_ble_eq_true rfl, by exact Nat.le_of_ble_eq_true rfl, by exact Nat.le_of_ble_eq_true rfl⟩ (fun r_2 h_1 => ?_)
  refine y_if_ne C 13 dX6_append_8 (by decide) ⟨by omega, by omega⟩ (fun c_3 => ?_) (fun c_3 => ?_)
  · refine y_aload_n C 0 dX6_append_13 rfl ?_
    refine y_get C fg_X6_103 0 dX6_append_14 rfl rfl ?_
    refine y_bipush C dX6_append_17 (by decide +kernel) ?_
    refine y_icmp_ne C 25 dX6_append_19 (by decide) ⟨⟨by omega, by omega⟩, ⟨by omega, by omega⟩⟩ (fun c_4 => ?_) (fun c_4 => ?_)
    · refine y_aload_n C 0 dX6_append_25 rfl ?_
      refine y_get C fg_X6_22 0 dX6_append_26 rfl rfl ?_
      refine y_aload_n C 0 dX6_append_29 rfl ?_
      refine y_get C fg_X6_103 0 dX6_append_30 rfl rfl ?_
      refine y_iload_n C 1 dX6_append_33 rfl ?_
      refine y_iast C 1 0 [cO y 6 [.ref ms, .ref ma, .ref mp, .int (zI np), .ref mk, .int (zI ik), .ref md, .int (zI ml), .ref me, .ref mo, .int (zI sp), .int (zI wr), .int (zI tp), .int (zI bt), .int (zI lf), .int (zI rg), .int (zI dp)], cI cA md 80 (zU cd ml ch)] dX6_append_34 rfl rfl ⟨by omega, by omega, by omega⟩ rfl ?_
      refine y_aload_n C 0 dX6_append_35 rfl ?_
      refine y_dup C dX6_append_36 rfl ?_
      refine y_get C fg_X6_103 0 dX6_append_37 rfl rfl ?_
      refine y_iconst C dX6_append_40 ?_
      refine y_iadd C dX6_append_41 ?_
      refine y_put C fp_X6_103 0 [cO y 6 [.ref ms, .ref ma, .ref mp, .int (zI np), .ref mk, .int (zI ik), .ref md, .int (zI (ml + 1)), .ref me, .ref mo, .int (zI sp), .int (zI wr), .int (zI tp), .int (zI bt), .int (zI lf), .int (zI rg), .int (zI dp)], cI cA md 80 (zU cd ml ch)] dX6_append_42 rfl rfl rfl (by exact Nat.le_of_ble_eq_true rfl) rfl ?_
      refine y_aload_n C 0 dX6_append_45 rfl ?_
      refine y_get C fg_X6_103 0 dX6_append_46 rfl rfl ?_
      refine hret _ _ _ _ dX6_append_49 ⟨(ml + 1), (zU cd ml ch), rfl, ?_⟩
      show ((ml + 1) = ansApp ml ch) ∧ ((ml + 1) = vI (vApp ml ch) (ml + 1) ml) ∧ ((zU cd ml ch) = vI (vApp ml ch) (zU cd ml ch) cd)
      have hV : vApp ml ch := by omega
      exact ⟨by unfold ansApp; rw [if_pos (by omega), if_pos (by omega)], by rw [vI_t hV], by rw [vI_t hV]⟩
    · refine y_bipush C dX6_append_22 (by decide +kernel) ?_
      refine hret _ _ _ _ dX6_append_24 ⟨ml, cd, rfl, ?_⟩
      show ((-3) = ansApp ml ch) ∧ (ml = vI (vApp ml ch) (ml + 1) ml) ∧ (cd = vI (vApp ml ch) (zU cd ml ch) cd)
      have hV : ¬ vApp ml ch := by omega
      exact ⟨by unfold ansApp; rw [if_pos (by omega), if_neg (by omega)], by rw [vI_f hV], by rw [vI_f hV]⟩
  · refine y_iconst C dX6_append_11 ?_
    refine hret _ _ _ _ dX6_append_12 ⟨ml, cd, rfl, ?_⟩
    show ((-1) = ansApp ml ch) ∧ (ml = vI (vApp ml ch) (ml + 1) ml) ∧ (cd = vI (vApp ml ch) (zU cd ml ch) cd)
    have hV : ¬ vApp ml ch := by omega
    exact ⟨by unfold ansApp; rw [if_neg (by omega)], by rw [vI_f hV], by rw [vI_f hV]⟩

set_option maxHeartbeats 4000000 in
set_option maxRecDepth 100000 in
theorem m_X6_clear {l : Launch} {D : va_G} {cA cB : ClassId} {y ms ma mp mk md me mo : Nat} {np ik ml sp wr tp bt lf rg dp : Int}  : MI l yX6_clear cX6_clear 2 .int { frames := 0, cells := 0, slots := 0, locals := 0 } D (zT cA cB) [.ref y] [cO y 6 [.ref ms, .ref ma, .ref mp, .int (zI np), .ref mk, .int (zI ik), .ref md, .int (zI ml), .ref me, .ref mo, .int (zI sp), .int (zI wr), .int (zI tp), .int (zI bt), .int (zI lf), .int (zI rg), .int (zI dp)]] (fun r w => w = [cO y 6 [.ref ms, .ref ma, .ref mp, .int (zI np), .ref mk, .int (zI ik), .ref md, .int (zI 0), .ref me, .ref mo, .int (zI sp), .int (zI wr), .int (zI tp), .int (zI bt), .int (zI lf), .int (zI rg), .int (zI dp)]] ∧ (r = ml)) := by
  refine MI.of RX6 ⟨rfl, by decide +kernel⟩ (Or.inl rfl) (Nat.le_of_ble_eq_true rfl) (fun h => by cases h) ?_
  intro K C hret
  change K 0 0 _ [(0, .ref y)] 0 []
  refine y_aload_n C 0 dX6_clear_0 rfl ?_
  refine y_get C fg_X6_103 0 dX6_clear_1 rfl rfl ?_
  refine y_istore_n C [(1, .int (zI ml)), (0, .ref y)] dX6_clear_4 (by decide) rfl ?_
  refine y_aload_n C 1 dX6_clear_5 rfl ?_
  refine y_iconst C dX6_clear_6 ?_
  refine y_put C fp_X6_103 0 [cO y 6 [.ref ms, .ref ma, .ref mp, .int (zI np), .ref mk, .int (zI ik), .ref md, .int (zI 0), .ref me, .ref mo, .int (zI sp), .int (zI wr), .int (zI tp), .int (zI bt), .int (zI lf), .int (zI rg), .int (zI dp)]] dX6_clear_7 rfl rfl rfl (by exact Nat.le_of_ble_eq_true rfl) rfl ?_
  refine y_iload_n C 0 dX6_clear_10 rfl ?_
  refine hret _ _ _ _ dX6_clear_11 ⟨rfl, ?_⟩
  show (ml = ml)
  rfl

set_option maxHeartbeats 4000000 in
set_option maxRecDepth 100000 in
theorem m_X6_undo {l : Launch} {D : va_G} {cA cB : ClassId} {y ms ma mp mk md me mo : Nat} {np ik ml sp wr tp bt lf rg dp : Int} {u past : Int → Int} (hnp : 0 ≤ np ∧ np ≤ 4) : MI l yX6_undo cX6_undo 2 .int { frames := 0, cells := 0, slots := 0, locals := 0 } D (zT cA cB) [.ref y] [cO y 6 [.ref ms, .ref ma, .ref mp, .int (zI np), .ref mk, .int (zI ik), .ref md, .int (zI ml), .ref me, .ref mo, .int (zI sp), .int (zI wr), .int (zI tp), .int (zI bt), .int (zI lf), .int (zI rg), .int (zI dp)], cI cA ms 800 u, cI cA mp 3200 past] (fun r w => ∃ (u2 : Int → Int), ∃ (np2 : Int), w = [cO y 6 [.ref ms, .ref ma, .ref mp, .int (zI np2), .ref mk, .int (zI ik), .ref md, .int (zI ml), .ref me, .ref mo, .int (zI sp), .int (zI wr), .int (zI tp), .int (zI bt), .int (zI lf), .int (zI rg), .int (zI dp)], cI cA ms 800 u2, cI cA mp 3200 past] ∧ (r = ansUndo np) ∧ (∀ j : Int, 0 ≤ j → j < 800 → u2 j = vI (0 < np) (fun k => past (800 * (np - 1) + k)) u j) ∧ (np2 = vI (0 < np) (np - 1) np)) := by
  refine MI.of RX6 ⟨rfl, by decide +kernel⟩ (Or.inl rfl) (Nat.le_of_ble_eq_true rfl) (fun h => by cases h) ?_
  intro K C hret
  change K 0 0 _ [(0, .ref y)] 0 []
  refine y_aload_n C 0 dX6_undo_0 rfl ?_
  refine y_get C fg_X6_39 0 dX6_undo_1 rfl rfl ?_
  refine y_if_ne C 10 dX6_undo_4 (by decide) ⟨by omega, by omega⟩ (fun c_1 => ?_) (fun c_1 => ?_)
  · refine y_aload_n C 0 dX6_undo_10 rfl ?_
    refine y_dup C dX6_undo_11 rfl ?_
    refine y_get C fg_X6_39 0 dX6_undo_12 rfl rfl ?_
    refine y_iconst C dX6_undo_15 ?_
    refine y_isub C dX6_undo_16 ?_
    refine y_put C fp_X6_39 0 [cO y 6 [.ref ms, .ref ma, .ref mp, .int (zI (np - 1)), .ref mk, .int (zI ik), .ref md, .int (zI ml), .ref me, .ref mo, .int (zI sp), .int (zI wr), .int (zI tp), .int (zI bt), .int (zI lf), .int (zI rg), .int (zI dp)], cI cA ms 800 u, cI cA mp 3200 past] dX6_undo_17 rfl rfl rfl (by exact Nat.le_of_ble_eq_true rfl) rfl ?_
    refine y_iconst C dX6_undo_20 ?_
    refine y_istore_n C [(1, .int (zI 0)), (0, .ref y)] dX6_undo_21 (by decide) rfl ?_
    refine y_lsub C [1, 0] (lv' := [(0, .ref y), (1, .int (zI 0))]) rfl ?_
    suffices hL22 : ∀ (fu : Nat) (k : Int) (u1 : Int → Int), (0 ≤ k ∧ k ≤ 800) → (∀ j : Int, 0 ≤ j → j < k → u1 j = past (800 * (np - 1) + j)) → (900 - k).toNat < fu → K 0 0 [cO y 6 [.ref ms, .ref ma, .ref mp, .int (zI (np - 1)), .ref mk, .int (zI ik), .ref md, .int (zI ml), .ref me, .ref mo, .int (zI sp), .int (zI wr), .int (zI tp), .int (zI bt), .int (zI lf), .int (zI rg), .int (zI dp)], cI cA ms 800 u1, cI cA mp 3200 past] [(0, .ref y), (1, .int (zI k))] 22 [] from hL22 _ 0 u (by omega) (by intro j a b; omega) (Nat.lt_succ_self _)
    intro f22
    induction f22 with
    | zero => exact fun _ _ _ _ hf => absurd hf (Nat.not_lt_zero _)
    | succ f22 ih22 =>
      intro k u1 hk hu1 hf22
      refine y_iload_n C 1 dX6_undo_22 rfl ?_
      refine y_sipush C dX6_undo_23 (by decide +kernel) ?_
      refine y_icmp_ge C 56 dX6_undo_26 (by decide) ⟨⟨by omega, by omega⟩, ⟨by omega, by omega⟩⟩ (fun c_2 => ?_) (fun c_2 => ?_)
      · refine y_aload_n C 0 dX6_undo_56 rfl ?_
        refine y_get C fg_X6_39 0 dX6_undo_57 rfl rfl ?_
        refine hret _ _ _ _ dX6_undo_60 ⟨u1, (np - 1), rfl, ?_⟩
        show ((np - 1) = ansUndo np) ∧ (∀ j : Int, 0 ≤ j → j < 800 → u1 j = vI (0 < np) (fun k => past (800 * (np - 1) + k)) u j) ∧ ((np - 1) = vI (0 < np) (np - 1) np)
        have hV : 0 < np := by omega
        exact ⟨by unfold ansUndo; rw [vI_t hV], by rw [vI_t hV]; exact fun j a b => hu1 j a (by omega), by rw [vI_t hV]⟩
      · refine y_aload_n C 0 dX6_undo_29 rfl ?_
        refine y_get C fg_X6_7 0 dX6_undo_30 rfl rfl ?_
        refine y_iload_n C 1 dX6_undo_33 rfl ?_
        refine y_aload_n C 0 dX6_undo_34 rfl ?_
        refine y_get C fg_X6_16 0 dX6_undo_35 rfl rfl ?_
        refine y_sipush C dX6_undo_38 (by decide +kernel) ?_
        refine y_aload_n C 0 dX6_undo_41 rfl ?_
        refine y_get C fg_X6_39 0 dX6_undo_42 rfl rfl ?_
        refine y_imul C dX6_undo_45 ?_
        refine y_iload_n C 1 dX6_undo_46 rfl ?_
        refine y_iadd C dX6_undo_47 ?_
        refine y_iald C 2 0 dX6_undo_48 rfl rfl ⟨by omega, by omega, by omega⟩ ?_
        refine y_iast C 1 0 [cO y 6 [.ref ms, .ref ma, .ref mp, .int (zI (np - 1)), .ref mk, .int (zI ik), .ref md, .int (zI ml), .ref me, .ref mo, .int (zI sp), .int (zI wr), .int (zI tp), .int (zI bt), .int (zI lf), .int (zI rg), .int (zI dp)], cI cA ms 800 (zU u1 k (past ((800 * (np - 1)) + k))), cI cA mp 3200 past] dX6_undo_49 rfl rfl ⟨by omega, by omega, by omega⟩ rfl ?_
        refine y_iinc C 1 [(1, .int (zI (k + 1))), (0, .ref y)] dX6_undo_50 rfl (by decide) rfl ?_
        refine y_goto C 22 dX6_undo_53 (by decide) ?_
        refine y_lsub C [1, 0] (lv' := [(0, .ref y), (1, .int (zI (k + 1)))]) rfl ?_
        exact ih22 (k + 1) (zU u1 k (past ((800 * (np - 1)) + k))) (by omega) (by exact zU_ext (f := fun j => past (800 * (np - 1) + j)) hu1 rfl) (by omega)
  · refine y_bipush C dX6_undo_7 (by decide +kernel) ?_
    refine hret _ _ _ _ dX6_undo_9 ⟨u, np, rfl, ?_⟩
    show ((-2) = ansUndo np) ∧ (∀ j : Int, 0 ≤ j → j < 800 → u j = vI (0 < np) (fun k => past (800 * (np - 1) + k)) u j) ∧ (np = vI (0 < np) (np - 1) np)
    have hV : ¬ 0 < np := by omega
    exact ⟨by unfold ansUndo; rw [vI_f hV], by rw [vI_f hV]; exact fun _ _ _ => rfl, by rw [vI_f hV]⟩

set_option maxHeartbeats 4000000 in
set_option maxRecDepth 100000 in
theorem m_X6_save {l : Launch} {D : va_G} {cA cB : ClassId} {y ms ma mp mk md me mo : Nat} {np ik ml sp wr tp bt lf rg dp : Int} {u v sn : Int → Int} (hU : UK u) : MI l yX6_save cX6_save 2 .int { frames := 7, cells := 0, slots := 0, locals := 166 } D (zT cA cB) [.ref y] [cO y 6 [.ref ms, .ref ma, .ref mp, .int (zI np), .ref mk, .int (zI ik), .ref md, .int (zI ml), .ref me, .ref mo, .int (zI sp), .int (zI wr), .int (zI tp), .int (zI bt), .int (zI lf), .int (zI rg), .int (zI dp)], cI cA ms 800 u, cI cA mk 800 v, cI cA me 32 sn] (fun r w => ∃ (v2 : Int → Int), ∃ (sn2 : Int → Int), w = [cO y 6 [.ref ms, .ref ma, .ref mp, .int (zI np), .ref mk, .int (zI 1), .ref md, .int (zI ml), .ref me, .ref mo, .int (zI sp), .int (zI wr), .int (zI tp), .int (zI bt), .int (zI lf), .int (zI rg), .int (zI dp)], cI cA ms 800 u, cI cA mk 800 v2, cI cA me 32 sn2] ∧ (r = allZ u) ∧ (∀ j : Int, 0 ≤ j → j < 800 → v2 j = u j)) := by
  refine MI.of RX6 ⟨rfl, by decide +kernel⟩ (Or.inl rfl) (Nat.le_of_ble_eq_true rfl) (fun h => by cases h) ?_
  intro K C hret
  change K 0 0 _ [(0, .ref y)] 0 []
  refine y_iconst C dX6_save_0 ?_
  refine y_istore_n C [(1, .int (zI 0)), (0, .ref y)] dX6_save_1 (by decide) rfl ?_
  refine y_lsub C [1, 0] (lv' := [(0, .ref y), (1, .int (zI 0))]) rfl ?_
  suffices hL2 : ∀ (fu : Nat) (k : Int) (v1 : Int → Int), (0 ≤ k ∧ k ≤ 800) → (∀ j : Int, 0 ≤ j → j < k → v1 j = u j) → (900 - k).toNat < fu → K 0 0 [cO y 6 [.ref ms, .ref ma, .ref mp, .int (zI np), .ref mk, .int (zI ik), .ref md, .int (zI ml), .ref me, .ref mo, .int (zI sp), .int (zI wr), .int (zI tp), .int (zI bt), .int (zI lf), .int (zI rg), .int (zI dp)], cI cA ms 800 u, cI cA mk 800 v1, cI cA me 32 sn] [(0, .ref y), (1, .int (zI k))] 2 [] from hL2 _ 0 v (by omega) (by intro j a b; omega) (Nat.lt_succ_self _)
  intro f2
  induction f2 with
  | zero => exact fun _ _ _ _ hf => absurd hf (Nat.not_lt_zero _)
  | succ f2 ih2 =>
    intro k v1 hk hv1 hf2
    refine y_iload_n C 1 dX6_save_2 rfl ?_
    refine y_sipush C dX6_save_3 (by decide +kernel) ?_
    refine y_icmp_ge C 27 dX6_save_6 (by decide) ⟨⟨by omega, by omega⟩, ⟨by omega, by omega⟩⟩ (fun c_1 => ?_) (fun c_1 => ?_)
    · refine y_aload_n C 0 dX6_save_27 rfl ?_
      refine y_iconst C dX6_save_28 ?_
      refine y_put C fp_X6_211 0 [cO y 6 [.ref ms, .ref ma, .ref mp, .int (zI np), .ref mk, .int (zI 1), .ref md, .int (zI ml), .ref me, .ref mo, .int (zI sp), .int (zI wr), .int (zI tp), .int (zI bt), .int (zI lf), .int (zI rg), .int (zI dp)], cI cA ms 800 u, cI cA mk 800 v1, cI cA me 32 sn] dX6_save_29 rfl (zbn (by omega)) (zbf (by omega)) (by exact Nat.le_of_ble_eq_true rfl) rfl ?_
      refine y_aload_n C 0 dX6_save_32 rfl ?_
      refine y_mcalli C (m_X6_allRight (l := l) (D := D) (cA := cA) (cB := cB) (y := y) (ms := ms) (ma := ma) (mp := mp) (mk := mk) (md := md) (me := me) (mo := mo) (np := np) (ik := 1) (ml := ml) (sp := sp) (wr := wr) (tp := tp) (bt := bt) (lf := lf) (rg := rg) (dp := dp) (u := u) (sn := sn) (by first | assumption | omega | exact ⟨by omega, by omega⟩)) lk_X6_214 [0, 1, 3] [2] ⟨rfl, rfl, by decide, by decide, by decide⟩ (jb := 0) rfl rfl dX6_save_33 rfl rfl ⟨by exact Nat.le_of_ble_eq_true rfl, by exact Nat.le_of_ble_eq_true rfl, rfl, rfl, by exact Nat.le_of_ble_eq_true rfl, by exact Nat.le_of_ble_eq_true rfl, by exact Nat.le_of_ble_eq_true rfl⟩ (fun r_3 w_5 h_2 => ?_)
      obtain ⟨sn2_4, rfl, h_2⟩ := h_2
      refine ⟨[1, 2, 0, 3], [cO y 6 [.ref ms, .ref ma, .ref mp, .int (zI np), .ref mk, .int (zI 1), .ref md, .int (zI ml), .ref me, .ref mo, .int (zI sp), .int (zI wr), .int (zI tp), .int (zI bt), .int (zI lf), .int (zI rg), .int (zI dp)], cI cA ms 800 u, cI cA mk 800 v1, cI cA me 32 sn2_4], ⟨rfl, by decide⟩, ?_⟩
      have hv := h_2
      refine hret _ _ _ _ dX6_save_36 ⟨v1, sn2_4, rfl, ?_⟩
      show (r_3 = allZ u) ∧ (∀ j : Int, 0 ≤ j → j < 800 → v1 j = u j)
      exact ⟨hv.1, fun j a b => hv1 j a (by omega)⟩
    · refine y_aload_n C 0 dX6_save_9 rfl ?_
      refine y_get C fg_X6_19 0 dX6_save_10 rfl rfl ?_
      refine y_iload_n C 1 dX6_save_13 rfl ?_
      refine y_aload_n C 0 dX6_save_14 rfl ?_
      refine y_get C fg_X6_7 0 dX6_save_15 rfl rfl ?_
      refine y_iload_n C 1 dX6_save_18 rfl ?_
      refine y_iald C 1 0 dX6_save_19 rfl rfl ⟨by omega, by omega, by omega⟩ ?_
      refine y_iast C 2 0 [cO y 6 [.ref ms, .ref ma, .ref mp, .int (zI np), .ref mk, .int (zI ik), .ref md, .int (zI ml), .ref me, .ref mo, .int (zI sp), .int (zI wr), .int (zI tp), .int (zI bt), .int (zI lf), .int (zI rg), .int (zI dp)], cI cA ms 800 u, cI cA mk 800 (zU v1 k (u k)), cI cA me 32 sn] dX6_save_20 rfl rfl ⟨by omega, by omega, by omega⟩ rfl ?_
      refine y_iinc C 1 [(1, .int (zI (k + 1))), (0, .ref y)] dX6_save_21 rfl (by decide) rfl ?_
      refine y_goto C 2 dX6_save_24 (by decide) ?_
      refine y_lsub C [1, 0] (lv' := [(0, .ref y), (1, .int (zI (k + 1)))]) rfl ?_
      exact ih2 (k + 1) (zU v1 k (u k)) (by omega) (by exact zU_ext hv1 rfl) (by omega)

set_option maxHeartbeats 4000000 in
set_option maxRecDepth 100000 in
theorem m_X6_restore {l : Launch} {D : va_G} {cA cB : ClassId} {y ms ma mp mk md me mo : Nat} {np ik ml sp wr tp bt lf rg dp : Int} {u past v sn : Int → Int} (hnp : 0 ≤ np ∧ np ≤ 4) (hik : ik = 0 ∨ ik = 1) (hUv : ik = 1 → UK v) : MI l yX6_restore cX6_restore 2 .int { frames := 7, cells := 0, slots := 0, locals := 166 } D (zT cA cB) [.ref y] [cO y 6 [.ref ms, .ref ma, .ref mp, .int (zI np), .ref mk, .int (zI ik), .ref md, .int (zI ml), .ref me, .ref mo, .int (zI sp), .int (zI wr), .int (zI tp), .int (zI bt), .int (zI lf), .int (zI rg), .int (zI dp)], cI cA ms 800 u, cI cA mp 3200 past, cI cA mk 800 v, cI cA me 32 sn] (fun r w => ∃ (u2 : Int → Int), ∃ (past2 : Int → Int), ∃ (np2 : Int), ∃ (sn2 : Int → Int), w = [cO y 6 [.ref ms, .ref ma, .ref mp, .int (zI np2), .ref mk, .int (zI ik), .ref md, .int (zI ml), .ref me, .ref mo, .int (zI sp), .int (zI wr), .int (zI tp), .int (zI bt), .int (zI lf), .int (zI rg), .int (zI dp)], cI cA ms 800 u2, cI cA mp 3200 past2, cI cA mk 800 v, cI cA me 32 sn2] ∧ (r = vI (ik = 1) (allZ v) (-2)) ∧ (∀ j : Int, 0 ≤ j → j < 800 → u2 j = vI (ik = 1) (v) u j) ∧ (∀ j : Int, 0 ≤ j → j < 800 * np2 → past2 j = vI (ik = 1) (recP past u np) past j) ∧ (np2 = vI (ik = 1) (nxS np) np)) := by
  refine MI.of RX6 ⟨rfl, by decide +kernel⟩ (Or.inl rfl) (Nat.le_of_ble_eq_true rfl) (fun h => by cases h) ?_
  intro K C hret
  change K 0 0 _ [(0, .ref y)] 0 []
  refine y_aload_n C 0 dX6_restore_0 rfl ?_
  refine y_get C fg_X6_211 0 dX6_restore_1 rfl rfl ?_
  refine y_if_ne C 10 dX6_restore_4 (by decide) ⟨by omega, by omega⟩ (fun c_1 => ?_) (fun c_1 => ?_)
  · refine y_aload_n C 0 dX6_restore_10 rfl ?_
    refine y_mcallv C (m_X6_records (l := l) (D := D) (cA := cA) (cB := cB) (y := y) (ms := ms) (ma := ma) (mp := mp) (mk := mk) (md := md) (me := me) (mo := mo) (np := np) (ik := ik) (ml := ml) (sp := sp) (wr := wr) (tp := tp) (bt := bt) (lf := lf) (rg := rg) (dp := dp) (u := u) (past := past) (by first | assumption | omega | exact ⟨by omega, by omega⟩)) lk_X6_81 [0, 1, 2] [3, 4] ⟨rfl, rfl, by decide, by decide, by decide⟩ (jb := 0) rfl rfl dX6_restore_11 rfl rfl ⟨by exact Nat.le_of_ble_eq_true rfl, by exact Nat.le_of_ble_eq_true rfl, rfl, rfl, by exact Nat.le_of_ble_eq_true rfl, by exact Nat.le_of_ble_eq_true rfl, by exact Nat.le_of_ble_eq_true rfl⟩ (fun w_6 h_2 => ?_)
    obtain ⟨past2_4, np2_5, rfl, h_2⟩ := h_2
    refine ⟨[2, 3, 4, 0, 1], [cO y 6 [.ref ms, .ref ma, .ref mp, .int (zI np2_5), .ref mk, .int (zI ik), .ref md, .int (zI ml), .ref me, .ref mo, .int (zI sp), .int (zI wr), .int (zI tp), .int (zI bt), .int (zI lf), .int (zI rg), .int (zI dp)], cI cA ms 800 u, cI cA mp 3200 past2_4, cI cA mk 800 v, cI cA me 32 sn], ⟨rfl, by decide⟩, ?_⟩
    obtain ⟨hr1, hr2⟩ := h_2
    refine y_iconst C dX6_restore_14 ?_
    refine y_istore_n C [(1, .int (zI 0)), (0, .ref y)] dX6_restore_15 (by decide) rfl ?_
    refine y_lsub C [1, 0] (lv' := [(0, .ref y), (1, .int (zI 0))]) rfl ?_
    suffices hL16 : ∀ (fu : Nat) (k : Int) (u1 : Int → Int), (0 ≤ k ∧ k ≤ 800) → (∀ j : Int, 0 ≤ j → j < k → u1 j = v j) → (900 - k).toNat < fu → K 0 0 [cO y 6 [.ref ms, .ref ma, .ref mp, .int (zI np2_5), .ref mk, .int (zI ik), .ref md, .int (zI ml), .ref me, .ref mo, .int (zI sp), .int (zI wr), .int (zI tp), .int (zI bt), .int (zI lf), .int (zI rg), .int (zI dp)], cI cA ms 800 u1, cI cA mp 3200 past2_4, cI cA mk 800 v, cI cA me 32 sn] [(0, .ref y), (1, .int (zI k))] 16 [] from hL16 _ 0 u (by omega) (by intro j a b; omega) (Nat.lt_succ_self _)
    intro f16
    induction f16 with
    | zero => exact fun _ _ _ _ hf => absurd hf (Nat.not_lt_zero _)
    | succ f16 ih16 =>
      intro k u1 hk hu1 hf16
      refine y_iload_n C 1 dX6_restore_16 rfl ?_
      refine y_sipush C dX6_restore_17 (by decide +kernel) ?_
      refine y_icmp_ge C 41 dX6_restore_20 (by decide) ⟨⟨by omega, by omega⟩, ⟨by omega, by omega⟩⟩ (fun c_7 => ?_) (fun c_7 => ?_)
      · have hu4 : ∀ j : Int, 0 ≤ j → j < 800 → u1 j = v j := fun j a b => hu1 j a (by omega)
        have hU1 := (hUv (by omega)).c hu4
        refine y_aload_n C 0 dX6_restore_41 rfl ?_
        refine y_mcalli C (m_X6_allRight (l := l) (D := D) (cA := cA) (cB := cB) (y := y) (ms := ms) (ma := ma) (mp := mp) (mk := mk) (md := md) (me := me) (mo := mo) (np := np2_5) (ik := ik) (ml := ml) (sp := sp) (wr := wr) (tp := tp) (bt := bt) (lf := lf) (rg := rg) (dp := dp) (u := u1) (sn := sn) (by first | assumption | omega | exact ⟨by omega, by omega⟩)) lk_X6_214 [0, 1, 4] [2, 3] ⟨rfl, rfl, by decide, by decide, by decide⟩ (jb := 0) rfl rfl dX6_restore_42 rfl rfl ⟨by exact Nat.le_of_ble_eq_true rfl, by exact Nat.le_of_ble_eq_true rfl, rfl, rfl, by exact Nat.le_of_ble_eq_true rfl, by exact Nat.le_of_ble_eq_true rfl, by exact Nat.le_of_ble_eq_true rfl⟩ (fun r_9 w_11 h_8 => ?_)
        obtain ⟨sn2_10, rfl, h_8⟩ := h_8
        refine ⟨[2, 3, 0, 1, 4], [cO y 6 [.ref ms, .ref ma, .ref mp, .int (zI np2_5), .ref mk, .int (zI ik), .ref md, .int (zI ml), .ref me, .ref mo, .int (zI sp), .int (zI wr), .int (zI tp), .int (zI bt), .int (zI lf), .int (zI rg), .int (zI dp)], cI cA ms 800 u1, cI cA mp 3200 past2_4, cI cA mk 800 v, cI cA me 32 sn2_10], ⟨rfl, by decide⟩, ?_⟩
        have hv := h_8
        refine hret _ _ _ _ dX6_restore_45 ⟨u1, past2_4, np2_5, sn2_10, rfl, ?_⟩
        show (r_9 = vI (ik = 1) (allZ v) (-2)) ∧ (∀ j : Int, 0 ≤ j → j < 800 → u1 j = vI (ik = 1) (v) u j) ∧ (∀ j : Int, 0 ≤ j → j < 800 * np2_5 → past2_4 j = vI (ik = 1) (recP past u np) past j) ∧ (np2_5 = vI (ik = 1) (nxS np) np)
        have hV : ik = 1 := by omega
        exact ⟨by rw [vI_t hV, hv.1]; exact allZ_congr hU1.s.1.1 hu4, by rw [vI_t hV]; exact hu4, by rw [vI_t hV]; exact hr1, by rw [vI_t hV]; exact hr2⟩
      · refine y_aload_n C 0 dX6_restore_23 rfl ?_
        refine y_get C fg_X6_7 0 dX6_restore_24 rfl rfl ?_
        refine y_iload_n C 1 dX6_restore_27 rfl ?_
        refine y_aload_n C 0 dX6_restore_28 rfl ?_
        refine y_get C fg_X6_19 0 dX6_restore_29 rfl rfl ?_
        refine y_iload_n C 1 dX6_restore_32 rfl ?_
        refine y_iald C 3 0 dX6_restore_33 rfl rfl ⟨by omega, by omega, by omega⟩ ?_
        refine y_iast C 1 0 [cO y 6 [.ref ms, .ref ma, .ref mp, .int (zI np2_5), .ref mk, .int (zI ik), .ref md, .int (zI ml), .ref me, .ref mo, .int (zI sp), .int (zI wr), .int (zI tp), .int (zI bt), .int (zI lf), .int (zI rg), .int (zI dp)], cI cA ms 800 (zU u1 k (v k)), cI cA mp 3200 past2_4, cI cA mk 800 v, cI cA me 32 sn] dX6_restore_34 rfl rfl ⟨by omega, by omega, by omega⟩ rfl ?_
        refine y_iinc C 1 [(1, .int (zI (k + 1))), (0, .ref y)] dX6_restore_35 rfl (by decide) rfl ?_
        refine y_goto C 16 dX6_restore_38 (by decide) ?_
        refine y_lsub C [1, 0] (lv' := [(0, .ref y), (1, .int (zI (k + 1)))]) rfl ?_
        exact ih16 (k + 1) (zU u1 k (v k)) (by omega) (by exact zU_ext hu1 rfl) (by omega)
  · refine y_bipush C dX6_restore_7 (by decide +kernel) ?_
    refine hret _ _ _ _ dX6_restore_9 ⟨u, past, np, sn, rfl, ?_⟩
    show ((-2) = vI (ik = 1) (allZ v) (-2)) ∧ (∀ j : Int, 0 ≤ j → j < 800 → u j = vI (ik = 1) (v) u j) ∧ (∀ j : Int, 0 ≤ j → j < 800 * np → past j = vI (ik = 1) (recP past u np) past j) ∧ (np = vI (ik = 1) (nxS np) np)
    have hV : ¬ ik = 1 := by omega
    exact ⟨by rw [vI_f hV], by rw [vI_f hV]; exact fun _ _ _ => rfl, by rw [vI_f hV]; exact fun _ _ _ => rfl, by rw [vI_f hV]⟩
