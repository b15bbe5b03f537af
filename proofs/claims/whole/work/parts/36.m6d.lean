set_option maxHeartbeats 4000000 in
set_option maxRecDepth 100000 in
theorem m_X6_next {l : Launch} {D : va_G} {cA cB : ClassId} {y ms ma mp mk md me mo : Nat} {np ik ml sp wr tp bt lf rg dp : Int} {cd : Int → Int} (hml : 0 ≤ ml ∧ ml ≤ 80) (hsp : 0 ≤ sp ∧ sp ≤ ml) (hcd : ∀ k : Int, 0 ≤ k → k < 80 → 0 ≤ cd k ∧ cd k ≤ 126) : MI l yX6_next cX6_next 1 .int { frames := 0, cells := 0, slots := 0, locals := 0 } D (zT cA cB) [.ref y] [cO y 6 [.ref ms, .ref ma, .ref mp, .int (zI np), .ref mk, .int (zI ik), .ref md, .int (zI ml), .ref me, .ref mo, .int (zI sp), .int (zI wr), .int (zI tp), .int (zI bt), .int (zI lf), .int (zI rg), .int (zI dp)], cI cA md 80 cd] (fun r w => w = [cO y 6 [.ref ms, .ref ma, .ref mp, .int (zI np), .ref mk, .int (zI ik), .ref md, .int (zI ml), .ref me, .ref mo, .int (zI sp), .int (zI wr), .int (zI tp), .int (zI bt), .int (zI lf), .int (zI rg), .int (zI dp)], cI cA md 80 cd] ∧ r = nxt cd ml sp ∧ 0 ≤ r ∧ r ≤ 126) := by
  refine MI.of RX6 ⟨rfl, by decide +kernel⟩ (Or.inl rfl) (Nat.le_of_ble_eq_true rfl) (fun h => by cases h) ?_
  intro K C hret
  change K 0 0 _ [(0, .ref y)] 0 []
  refine y_aload_n C 0 dX6_next_0 rfl ?_
  refine y_get C fg_X6_106 0 dX6_next_1 rfl rfl ?_
  refine y_aload_n C 0 dX6_next_4 rfl ?_
  refine y_get C fg_X6_103 0 dX6_next_5 rfl rfl ?_
  refine y_icmp_ge C 23 dX6_next_8 (by decide) ⟨⟨by omega, by omega⟩, ⟨by omega, by omega⟩⟩ (fun c_1 => ?_) (fun c_1 => ?_)
  · refine y_iconst C dX6_next_23 ?_
    refine hret _ _ _ _ dX6_next_24 ⟨rfl, ?_⟩
    show 0 = nxt cd ml sp ∧ 0 ≤ 0 ∧ 0 ≤ 126
    refine ⟨?_, by omega, by omega⟩
    unfold nxt
    first | rw [if_pos (by omega)] | rw [if_neg (by omega)]
  · refine y_aload_n C 0 dX6_next_11 rfl ?_
    refine y_get C fg_X6_22 0 dX6_next_12 rfl rfl ?_
    refine y_aload_n C 0 dX6_next_15 rfl ?_
    refine y_get C fg_X6_106 0 dX6_next_16 rfl rfl ?_
    refine y_iald C 1 0 dX6_next_19 rfl rfl ⟨by omega, by omega, by omega⟩ ?_
    have g_2 := hcd sp (by omega) (by omega)
    refine y_goto C 24 dX6_next_20 (by decide) ?_
    refine hret _ _ _ _ dX6_next_24 ⟨rfl, ?_⟩
    show (cd sp) = nxt cd ml sp ∧ 0 ≤ (cd sp) ∧ (cd sp) ≤ 126
    refine ⟨?_, by omega, by omega⟩
    unfold nxt
    first | rw [if_pos (by omega)] | rw [if_neg (by omega)]

set_option maxHeartbeats 4000000 in
set_option maxRecDepth 100000 in
theorem m_X6_isNext {l : Launch} {D : va_G} {cA cB : ClassId} {y ms ma mp mk md me mo : Nat} {np ik ml sp wr tp bt lf rg dp : Int} {cd : Int → Int} {sg : Int} (hml : 0 ≤ ml ∧ ml ≤ 80) (hsp : 0 ≤ sp ∧ sp ≤ ml) (hcd : ∀ k : Int, 0 ≤ k → k < 80 → 0 ≤ cd k ∧ cd k ≤ 126) (hwr : wr = 0 ∨ wr = 1) (hsg : 1 ≤ sg ∧ sg ≤ 126) : MI l yX6_isNext cX6_isNext 2 .boolean { frames := 1, cells := 0, slots := 0, locals := 20 } D (zT cA cB) [.ref y, .int (zI sg)] [cO y 6 [.ref ms, .ref ma, .ref mp, .int (zI np), .ref mk, .int (zI ik), .ref md, .int (zI ml), .ref me, .ref mo, .int (zI sp), .int (zI wr), .int (zI tp), .int (zI bt), .int (zI lf), .int (zI rg), .int (zI dp)], cI cA md 80 cd] (fun r w => w = [cO y 6 [.ref ms, .ref ma, .ref mp, .int (zI np), .ref mk, .int (zI ik), .ref md, .int (zI ml), .ref me, .ref mo, .int (zI sp), .int (zI wr), .int (zI tp), .int (zI bt), .int (zI lf), .int (zI rg), .int (zI dp)], cI cA md 80 cd] ∧ ((r = 1 ∧ (wr = 0 ∧ nxt cd ml sp = sg)) ∨ (r = 0 ∧ ¬ (wr = 0 ∧ nxt cd ml sp = sg)))) := by
  refine MI.of RX6 ⟨rfl, by decide +kernel⟩ (Or.inr rfl) (Nat.le_of_ble_eq_true rfl) (fun _ r w h => by rcases h.2 with h | h; exact Or.inr h.1; exact Or.inl h.1) ?_
  intro K C hret
  change K 0 0 _ [(0, .ref y), (1, .int (zI sg))] 0 []
  refine y_aload_n C 0 dX6_isNext_0 rfl ?_
  refine y_get C fg_X6_109 0 dX6_isNext_1 rfl rfl ?_
  refine y_if_ne C 19 dX6_isNext_4 (by decide) ⟨by omega, by omega⟩ (fun c_1 => ?_) (fun c_1 => ?_)
  · refine y_iconst C dX6_isNext_19 ?_
    refine hret _ _ _ _ dX6_isNext_20 ⟨rfl, ?_⟩
    show ((0 = 1 ∧ (wr = 0 ∧ nxt cd ml sp = sg)) ∨ (0 = 0 ∧ ¬ (wr = 0 ∧ nxt cd ml sp = sg)))
    omega
  · refine y_aload_n C 0 dX6_isNext_7 rfl ?_
    refine y_pcall C (m_X6_next (l := l) (D := D) (cA := cA) (cB := cB) (y := y) (ms := ms) (ma := ma) (mp := mp) (mk := mk) (md := md) (me := me) (mo := mo) (np := np) (ik := ik) (ml := ml) (sp := sp) (wr := wr) (tp := tp) (bt := bt) (lf := lf) (rg := rg) (dp := dp) (cd := cd) (by first | assumption | omega | exact ⟨by omega, by omega⟩) (by first | assumption | omega | exact ⟨by omega, by omega⟩) (by first | assumption | omega | exact ⟨by omega, by omega⟩)) lk_X6_113 [0, 1] [] [0, 1] ⟨rfl, rfl, by decide, by decide, by decide⟩ ⟨rfl, by decide⟩ rfl rfl dX6_isNext_8 rfl rfl ⟨by exact Nat.le_of_ble_eq_true rfl, by exact Nat.le_of_ble_eq_true rfl, rfl, rfl, by exact Nat.le_of_ble_eq_true rfl, by exact Nat.le_of_ble_eq_true rfl, by exact Nat.le_of_ble_eq_true rfl⟩ (fun r_3 h_2 => ?_)
    have hn := h_2
    refine y_iload_n C 1 dX6_isNext_11 rfl ?_
    refine y_icmp_ne C 19 dX6_isNext_12 (by decide) ⟨⟨by omega, by omega⟩, ⟨by omega, by omega⟩⟩ (fun c_4 => ?_) (fun c_4 => ?_)
    · refine y_iconst C dX6_isNext_19 ?_
      refine hret _ _ _ _ dX6_isNext_20 ⟨rfl, ?_⟩
      show ((0 = 1 ∧ (wr = 0 ∧ nxt cd ml sp = sg)) ∨ (0 = 0 ∧ ¬ (wr = 0 ∧ nxt cd ml sp = sg)))
      omega
    · refine y_iconst C dX6_isNext_15 ?_
      refine y_goto C 20 dX6_isNext_16 (by decide) ?_
      refine hret _ _ _ _ dX6_isNext_20 ⟨rfl, ?_⟩
      show ((1 = 1 ∧ (wr = 0 ∧ nxt cd ml sp = sg)) ∨ (1 = 0 ∧ ¬ (wr = 0 ∧ nxt cd ml sp = sg)))
      omega

set_option maxHeartbeats 4000000 in
set_option maxRecDepth 100000 in
theorem m_X6_wants {l : Launch} {D : va_G} {cA cB : ClassId} {y ms ma mp mk md me mo : Nat} {np ik ml sp wr tp bt lf rg dp : Int} {cd : Int → Int} {sg : Int} (hml : 0 ≤ ml ∧ ml ≤ 80) (hsp : 0 ≤ sp ∧ sp ≤ ml) (hcd : ∀ k : Int, 0 ≤ k → k < 80 → 0 ≤ cd k ∧ cd k ≤ 126) (hwr : wr = 0 ∨ wr = 1) (hsg : 1 ≤ sg ∧ sg ≤ 126) : MV l yX6_wants cX6_wants 2 { frames := 1, cells := 0, slots := 0, locals := 20 } D (zT cA cB) [.ref y, .int (zI sg)] [cO y 6 [.ref ms, .ref ma, .ref mp, .int (zI np), .ref mk, .int (zI ik), .ref md, .int (zI ml), .ref me, .ref mo, .int (zI sp), .int (zI wr), .int (zI tp), .int (zI bt), .int (zI lf), .int (zI rg), .int (zI dp)], cI cA md 80 cd] (fun w => ∃ (sp2 : Int), ∃ (wr2 : Int), w = [cO y 6 [.ref ms, .ref ma, .ref mp, .int (zI np), .ref mk, .int (zI ik), .ref md, .int (zI ml), .ref me, .ref mo, .int (zI sp2), .int (zI wr2), .int (zI tp), .int (zI bt), .int (zI lf), .int (zI rg), .int (zI dp)], cI cA md 80 cd] ∧ (WT cd ml sp wr sg sp2 wr2) ∧ (0 ≤ sp2 ∧ sp2 ≤ ml) ∧ (wr2 = 0 ∨ wr2 = 1)) := by
  refine MV.of RX6 ⟨rfl, by decide +kernel⟩ (Nat.le_of_ble_eq_true rfl) ?_
  intro K C hret
  change K 0 0 _ [(0, .ref y), (1, .int (zI sg))] 0 []
  have hnr := nxt_r (cd := cd) (ml := ml) (sp := sp) hml hsp.1 hcd
  have hnl := nxt_lt (cd := cd) (ml := ml) (sp := sp)
  refine y_aload_n C 0 dX6_wants_0 rfl ?_
  refine y_aload_n C 0 dX6_wants_1 rfl ?_
  refine y_get C fg_X6_109 0 dX6_wants_2 rfl rfl ?_
  refine y_if_ne C 16 dX6_wants_5 (by decide) ⟨by omega, by omega⟩ (fun c_1 => ?_) (fun c_1 => ?_)
  · refine y_iconst C dX6_wants_16 ?_
    refine y_goto C 21 dX6_wants_17 (by decide) ?_
    refine y_put C fp_X6_109 0 [cO y 6 [.ref ms, .ref ma, .ref mp, .int (zI np), .ref mk, .int (zI ik), .ref md, .int (zI ml), .ref me, .ref mo, .int (zI sp), .int (zI 1), .int (zI tp), .int (zI bt), .int (zI lf), .int (zI rg), .int (zI dp)], cI cA md 80 cd] dX6_wants_21 rfl (zbn (by omega)) (zbf (by omega)) (by exact Nat.le_of_ble_eq_true rfl) rfl ?_
    refine y_aload_n C 0 dX6_wants_24 rfl ?_
    refine y_dup C dX6_wants_25 rfl ?_
    refine y_get C fg_X6_106 0 dX6_wants_26 rfl rfl ?_
    refine y_aload_n C 0 dX6_wants_29 rfl ?_
    refine y_get C fg_X6_109 0 dX6_wants_30 rfl rfl ?_
    refine y_if_eq C 40 dX6_wants_33 (by decide) ⟨by omega, by omega⟩ (fun h => absurd h (by decide)) (fun _ => ?_)
    refine y_iconst C dX6_wants_36 ?_
    refine y_goto C 41 dX6_wants_37 (by decide) ?_
    refine y_iadd C dX6_wants_41 ?_
    refine y_put C fp_X6_106 0 [cO y 6 [.ref ms, .ref ma, .ref mp, .int (zI np), .ref mk, .int (zI ik), .ref md, .int (zI ml), .ref me, .ref mo, .int (zI (sp + 0)), .int (zI 1), .int (zI tp), .int (zI bt), .int (zI lf), .int (zI rg), .int (zI dp)], cI cA md 80 cd] dX6_wants_42 rfl rfl rfl (by exact Nat.le_of_ble_eq_true rfl) rfl ?_
    refine hret _ _ _ dX6_wants_45 ⟨(sp + 0), 1, rfl, ?_⟩
    show (WT cd ml sp wr sg (sp + 0) 1) ∧ (0 ≤ (sp + 0) ∧ (sp + 0) ≤ ml) ∧ (1 = 0 ∨ 1 = 1)
    refine ⟨by unfold WT; omega, by omega, by omega⟩
  · refine y_aload_n C 0 dX6_wants_8 rfl ?_
    refine y_pcall C (m_X6_next (l := l) (D := D) (cA := cA) (cB := cB) (y := y) (ms := ms) (ma := ma) (mp := mp) (mk := mk) (md := md) (me := me) (mo := mo) (np := np) (ik := ik) (ml := ml) (sp := sp) (wr := wr) (tp := tp) (bt := bt) (lf := lf) (rg := rg) (dp := dp) (cd := cd) (by first | assumption | omega | exact ⟨by omega, by omega⟩) (by first | assumption | omega | exact ⟨by omega, by omega⟩) (by first | assumption | omega | exact ⟨by omega, by omega⟩)) lk_X6_113 [0, 1] [] [0, 1] ⟨rfl, rfl, by decide, by decide, by decide⟩ ⟨rfl, by decide⟩ rfl rfl dX6_wants_9 rfl rfl ⟨by exact Nat.le_of_ble_eq_true rfl, by exact Nat.le_of_ble_eq_true rfl, rfl, rfl, by exact Nat.le_of_ble_eq_true rfl, by exact Nat.le_of_ble_eq_true rfl, by exact Nat.le_of_ble_eq_true rfl⟩ (fun r_4 h_3 => ?_)
    have hn := h_3
    refine y_iload_n C 1 dX6_wants_12 rfl ?_
    refine y_icmp_eq C 20 dX6_wants_13 (by decide) ⟨⟨by omega, by omega⟩, ⟨by omega, by omega⟩⟩ (fun c_5 => ?_) (fun c_5 => ?_)
    · refine y_iconst C dX6_wants_20 ?_
      refine y_put C fp_X6_109 0 [cO y 6 [.ref ms, .ref ma, .ref mp, .int (zI np), .ref mk, .int (zI ik), .ref md, .int (zI ml), .ref me, .ref mo, .int (zI sp), .int (zI 0), .int (zI tp), .int (zI bt), .int (zI lf), .int (zI rg), .int (zI dp)], cI cA md 80 cd] dX6_wants_21 rfl (zbn (by omega)) (zbf (by omega)) (by exact Nat.le_of_ble_eq_true rfl) rfl ?_
      refine y_aload_n C 0 dX6_wants_24 rfl ?_
      refine y_dup C dX6_wants_25 rfl ?_
      refine y_get C fg_X6_106 0 dX6_wants_26 rfl rfl ?_
      refine y_aload_n C 0 dX6_wants_29 rfl ?_
      refine y_get C fg_X6_109 0 dX6_wants_30 rfl rfl ?_
      refine y_if_eq C 40 dX6_wants_33 (by decide) ⟨by omega, by omega⟩ (fun _ => ?_) (fun h => absurd h (by decide))
      refine y_iconst C dX6_wants_40 ?_
      refine y_iadd C dX6_wants_41 ?_
      refine y_put C fp_X6_106 0 [cO y 6 [.ref ms, .ref ma, .ref mp, .int (zI np), .ref mk, .int (zI ik), .ref md, .int (zI ml), .ref me, .ref mo, .int (zI (sp + 1)), .int (zI 0), .int (zI tp), .int (zI bt), .int (zI lf), .int (zI rg), .int (zI dp)], cI cA md 80 cd] dX6_wants_42 rfl rfl rfl (by exact Nat.le_of_ble_eq_true rfl) rfl ?_
      refine hret _ _ _ dX6_wants_45 ⟨(sp + 1), 0, rfl, ?_⟩
      show (WT cd ml sp wr sg (sp + 1) 0) ∧ (0 ≤ (sp + 1) ∧ (sp + 1) ≤ ml) ∧ (0 = 0 ∨ 0 = 1)
      refine ⟨by unfold WT; omega, by omega, by omega⟩
    · refine y_iconst C dX6_wants_16 ?_
      refine y_goto C 21 dX6_wants_17 (by decide) ?_
      refine y_put C fp_X6_109 0 [cO y 6 [.ref ms, .ref ma, .ref mp, .int (zI np), .ref mk, .int (zI ik), .ref md, .int (zI ml), .ref me, .ref mo, .int (zI sp), .int (zI 1), .int (zI tp), .int (zI bt), .int (zI lf), .int (zI rg), .int (zI dp)], cI cA md 80 cd] dX6_wants_21 rfl (zbn (by omega)) (zbf (by omega)) (by exact Nat.le_of_ble_eq_true rfl) rfl ?_
      refine y_aload_n C 0 dX6_wants_24 rfl ?_
      refine y_dup C dX6_wants_25 rfl ?_
      refine y_get C fg_X6_106 0 dX6_wants_26 rfl rfl ?_
      refine y_aload_n C 0 dX6_wants_29 rfl ?_
      refine y_get C fg_X6_109 0 dX6_wants_30 rfl rfl ?_
      refine y_if_eq C 40 dX6_wants_33 (by decide) ⟨by omega, by omega⟩ (fun h => absurd h (by decide)) (fun _ => ?_)
      refine y_iconst C dX6_wants_36 ?_
      refine y_goto C 41 dX6_wants_37 (by decide) ?_
      refine y_iadd C dX6_wants_41 ?_
      refine y_put C fp_X6_106 0 [cO y 6 [.ref ms, .ref ma, .ref mp, .int (zI np), .ref mk, .int (zI ik), .ref md, .int (zI ml), .ref me, .ref mo, .int (zI (sp + 0)), .int (zI 1), .int (zI tp), .int (zI bt), .int (zI lf), .int (zI rg), .int (zI dp)], cI cA md 80 cd] dX6_wants_42 rfl rfl rfl (by exact Nat.le_of_ble_eq_true rfl) rfl ?_
      refine hret _ _ _ dX6_wants_45 ⟨(sp + 0), 1, rfl, ?_⟩
      show (WT cd ml sp wr sg (sp + 0) 1) ∧ (0 ≤ (sp + 0) ∧ (sp + 0) ≤ ml) ∧ (1 = 0 ∨ 1 = 1)
      refine ⟨by unfold WT; omega, by omega, by omega⟩

set_option maxHeartbeats 4000000 in
set_option maxRecDepth 100000 in
theorem m_X6_digit {l : Launch} {D : va_G} {cA cB : ClassId} {y ms ma mp mk md me mo : Nat} {np ik ml sp wr tp bt lf rg dp : Int} {cd : Int → Int} {lo hi : Int} (hml : 0 ≤ ml ∧ ml ≤ 80) (hsp : 0 ≤ sp ∧ sp ≤ ml) (hcd : ∀ k : Int, 0 ≤ k → k < 80 → 0 ≤ cd k ∧ cd k ≤ 126) (hwr : wr = 0 ∨ wr = 1) (hlo : 0 ≤ lo ∧ lo ≤ 9) (hhi : 0 ≤ hi ∧ hi ≤ 9) : MI l yX6_digit cX6_digit 4 .int { frames := 1, cells := 0, slots := 0, locals := 22 } D (zT cA cB) [.ref y, .int (zI lo), .int (zI hi)] [cO y 6 [.ref ms, .ref ma, .ref mp, .int (zI np), .ref mk, .int (zI ik), .ref md, .int (zI ml), .ref me, .ref mo, .int (zI sp), .int (zI wr), .int (zI tp), .int (zI bt), .int (zI lf), .int (zI rg), .int (zI dp)], cI cA md 80 cd] (fun r w => ∃ (sp2 : Int), ∃ (wr2 : Int), w = [cO y 6 [.ref ms, .ref ma, .ref mp, .int (zI np), .ref mk, .int (zI ik), .ref md, .int (zI ml), .ref me, .ref mo, .int (zI sp2), .int (zI wr2), .int (zI tp), .int (zI bt), .int (zI lf), .int (zI rg), .int (zI dp)], cI cA md 80 cd] ∧ (DG cd ml sp wr lo hi r sp2 wr2) ∧ (0 ≤ sp2 ∧ sp2 ≤ ml) ∧ (wr2 = 0 ∨ wr2 = 1)) := by
  refine MI.of RX6 ⟨rfl, by decide +kernel⟩ (Or.inl rfl) (Nat.le_of_ble_eq_true rfl) (fun h => by cases h) ?_
  intro K C hret
  change K 0 0 _ [(0, .ref y), (1, .int (zI lo)), (2, .int (zI hi))] 0 []
  have hnr := nxt_r (cd := cd) (ml := ml) (sp := sp) hml hsp.1 hcd
  have hnl := nxt_lt (cd := cd) (ml := ml) (sp := sp)
  refine y_aload_n C 0 dX6_digit_0 rfl ?_
  refine y_pcall C (m_X6_next (l := l) (D := D) (cA := cA) (cB := cB) (y := y) (ms := ms) (ma := ma) (mp := mp) (mk := mk) (md := md) (me := me) (mo := mo) (np := np) (ik := ik) (ml := ml) (sp := sp) (wr := wr) (tp := tp) (bt := bt) (lf := lf) (rg := rg) (dp := dp) (cd := cd) (by first | assumption | omega | exact ⟨by omega, by omega⟩) (by first | assumption | omega | exact ⟨by omega, by omega⟩) (by first | assumption | omega | exact ⟨by omega, by omega⟩)) lk_X6_113 [0, 1] [] [0, 1] ⟨rfl, rfl, by decide, by decide, by decide⟩ ⟨rfl, by decide⟩ rfl rfl dX6_digit_1 rfl rfl ⟨by exact Nat.le_of_ble_eq_true rfl, by exact Nat.le_of_ble_eq_true rfl, rfl, rfl, by exact Nat.le_of_ble_eq_true rfl, by exact Nat.le_of_ble_eq_true rfl, by exact Nat.le_of_ble_eq_true rfl⟩ (fun r_2 h_1 => ?_)
  have hn := h_1
  refine y_bipush C dX6_digit_4 (by decide +kernel) ?_
  refine y_isub C dX6_digit_6 ?_
  refine y_istore_n C [(3, .int (zI (r_2 - 48))), (0, .ref y), (1, .int (zI lo)), (2, .int (zI hi))] dX6_digit_7 (by decide) rfl ?_
  refine y_aload_n C 1 dX6_digit_8 rfl ?_
  refine y_aload_n C 1 dX6_digit_9 rfl ?_
  refine y_get C fg_X6_109 0 dX6_digit_10 rfl rfl ?_
  refine y_if_ne C 25 dX6_digit_13 (by decide) ⟨by omega, by omega⟩ (fun c_3 => ?_) (fun c_3 => ?_)
  · refine y_iconst C dX6_digit_25 ?_
    refine y_goto C 30 dX6_digit_26 (by decide) ?_
    refine y_put C fp_X6_109 0 [cO y 6 [.ref ms, .ref ma, .ref mp, .int (zI np), .ref mk, .int (zI ik), .ref md, .int (zI ml), .ref me, .ref mo, .int (zI sp), .int (zI 1), .int (zI tp), .int (zI bt), .int (zI lf), .int (zI rg), .int (zI dp)], cI cA md 80 cd] dX6_digit_30 rfl (zbn (by omega)) (zbf (by omega)) (by exact Nat.le_of_ble_eq_true rfl) rfl ?_
    refine y_aload_n C 1 dX6_digit_33 rfl ?_
    refine y_dup C dX6_digit_34 rfl ?_
    refine y_get C fg_X6_106 0 dX6_digit_35 rfl rfl ?_
    refine y_aload_n C 1 dX6_digit_38 rfl ?_
    refine y_get C fg_X6_109 0 dX6_digit_39 rfl rfl ?_
    refine y_if_eq C 49 dX6_digit_42 (by decide) ⟨by omega, by omega⟩ (fun h => absurd h (by decide)) (fun _ => ?_)
    refine y_iconst C dX6_digit_45 ?_
    refine y_goto C 50 dX6_digit_46 (by decide) ?_
    refine y_iadd C dX6_digit_50 ?_
    refine y_put C fp_X6_106 0 [cO y 6 [.ref ms, .ref ma, .ref mp, .int (zI np), .ref mk, .int (zI ik), .ref md, .int (zI ml), .ref me, .ref mo, .int (zI (sp + 0)), .int (zI 1), .int (zI tp), .int (zI bt), .int (zI lf), .int (zI rg), .int (zI dp)], cI cA md 80 cd] dX6_digit_51 rfl rfl rfl (by exact Nat.le_of_ble_eq_true rfl) rfl ?_
    refine y_iload_n C 0 dX6_digit_54 rfl ?_
    refine hret _ _ _ _ dX6_digit_55 ⟨(sp + 0), 1, rfl, ?_⟩
    show (DG cd ml sp wr lo hi (r_2 - 48) (sp + 0) 1) ∧ (0 ≤ (sp + 0) ∧ (sp + 0) ≤ ml) ∧ (1 = 0 ∨ 1 = 1)
    refine ⟨by unfold DG; omega, by omega, by omega⟩
  · refine y_iload_n C 0 dX6_digit_16 rfl ?_
    refine y_iload_n C 2 dX6_digit_17 rfl ?_
    refine y_iload_n C 3 dX6_digit_18 rfl ?_
    refine y_pcalls C (m_X6_in (l := l) (D := D) (cA := cA) (cB := cB) (vv := r_2 - 48) (lo := lo) (hi := hi) (by first | assumption | exact ⟨by omega, by omega⟩) (by first | assumption | exact ⟨by omega, by omega⟩) (by first | assumption | exact ⟨by omega, by omega⟩)) lk_X6_31 [] [0, 1] [0, 1] ⟨rfl, rfl, by decide, by decide, by decide⟩ ⟨rfl, by decide⟩ dX6_digit_19 rfl rfl ⟨by exact Nat.le_of_ble_eq_true rfl, by exact Nat.le_of_ble_eq_true rfl, rfl, rfl, by exact Nat.le_of_ble_eq_true rfl, by exact Nat.le_of_ble_eq_true rfl, by exact Nat.le_of_ble_eq_true rfl⟩ (fun r_6 h_5 => ?_)
    have hk := h_5
    refine y_if_ne C 29 dX6_digit_22 (by decide) ⟨by omega, by omega⟩ (fun c_7 => ?_) (fun c_7 => ?_)
    · refine y_iconst C dX6_digit_29 ?_
      refine y_put C fp_X6_109 0 [cO y 6 [.ref ms, .ref ma, .ref mp, .int (zI np), .ref mk, .int (zI ik), .ref md, .int (zI ml), .ref me, .ref mo, .int (zI sp), .int (zI 0), .int (zI tp), .int (zI bt), .int (zI lf), .int (zI rg), .int (zI dp)], cI cA md 80 cd] dX6_digit_30 rfl (zbn (by omega)) (zbf (by omega)) (by exact Nat.le_of_ble_eq_true rfl) rfl ?_
      refine y_aload_n C 1 dX6_digit_33 rfl ?_
      refine y_dup C dX6_digit_34 rfl ?_
      refine y_get C fg_X6_106 0 dX6_digit_35 rfl rfl ?_
      refine y_aload_n C 1 dX6_digit_38 rfl ?_
      refine y_get C fg_X6_109 0 dX6_digit_39 rfl rfl ?_
      refine y_if_eq C 49 dX6_digit_42 (by decide) ⟨by omega, by omega⟩ (fun _ => ?_) (fun h => absurd h (by decide))
      refine y_iconst C dX6_digit_49 ?_
      refine y_iadd C dX6_digit_50 ?_
      refine y_put C fp_X6_106 0 [cO y 6 [.ref ms, .ref ma, .ref mp, .int (zI np), .ref mk, .int (zI ik), .ref md, .int (zI ml), .ref me, .ref mo, .int (zI (sp + 1)), .int (zI 0), .int (zI tp), .int (zI bt), .int (zI lf), .int (zI rg), .int (zI dp)], cI cA md 80 cd] dX6_digit_51 rfl rfl rfl (by exact Nat.le_of_ble_eq_true rfl) rfl ?_
      refine y_iload_n C 0 dX6_digit_54 rfl ?_
      refine hret _ _ _ _ dX6_digit_55 ⟨(sp + 1), 0, rfl, ?_⟩
      show (DG cd ml sp wr lo hi (r_2 - 48) (sp + 1) 0) ∧ (0 ≤ (sp + 1) ∧ (sp + 1) ≤ ml) ∧ (0 = 0 ∨ 0 = 1)
      refine ⟨by unfold DG; omega, by omega, by omega⟩
    · refine y_iconst C dX6_digit_25 ?_
      refine y_goto C 30 dX6_digit_26 (by decide) ?_
      refine y_put C fp_X6_109 0 [cO y 6 [.ref ms, .ref ma, .ref mp, .int (zI np), .ref mk, .int (zI ik), .ref md, .int (zI ml), .ref me, .ref mo, .int (zI sp), .int (zI 1), .int (zI tp), .int (zI bt), .int (zI lf), .int (zI rg), .int (zI dp)], cI cA md 80 cd] dX6_digit_30 rfl (zbn (by omega)) (zbf (by omega)) (by exact Nat.le_of_ble_eq_true rfl) rfl ?_
      refine y_aload_n C 1 dX6_digit_33 rfl ?_
      refine y_dup C dX6_digit_34 rfl ?_
      refine y_get C fg_X6_106 0 dX6_digit_35 rfl rfl ?_
      refine y_aload_n C 1 dX6_digit_38 rfl ?_
      refine y_get C fg_X6_109 0 dX6_digit_39 rfl rfl ?_
      refine y_if_eq C 49 dX6_digit_42 (by decide) ⟨by omega, by omega⟩ (fun h => absurd h (by decide)) (fun _ => ?_)
      refine y_iconst C dX6_digit_45 ?_
      refine y_goto C 50 dX6_digit_46 (by decide) ?_
      refine y_iadd C dX6_digit_50 ?_
      refine y_put C fp_X6_106 0 [cO y 6 [.ref ms, .ref ma, .ref mp, .int (zI np), .ref mk, .int (zI ik), .ref md, .int (zI ml), .ref me, .ref mo, .int (zI (sp + 0)), .int (zI 1), .int (zI tp), .int (zI bt), .int (zI lf), .int (zI rg), .int (zI dp)], cI cA md 80 cd] dX6_digit_51 rfl rfl rfl (by exact Nat.le_of_ble_eq_true rfl) rfl ?_
      refine y_iload_n C 0 dX6_digit_54 rfl ?_
      refine hret _ _ _ _ dX6_digit_55 ⟨(sp + 0), 1, rfl, ?_⟩
      show (DG cd ml sp wr lo hi (r_2 - 48) (sp + 0) 1) ∧ (0 ≤ (sp + 0) ∧ (sp + 0) ≤ ml) ∧ (1 = 0 ∨ 1 = 1)
      refine ⟨by unfold DG; omega, by omega, by omega⟩

set_option maxHeartbeats 4000000 in
set_option maxRecDepth 100000 in
theorem m_X6_column {l : Launch} {D : va_G} {cA cB : ClassId} {y ms ma mp mk md me mo : Nat} {np ik ml sp wr tp bt lf rg dp : Int} {cd : Int → Int} {low : Int} (hml : 0 ≤ ml ∧ ml ≤ 80) (hsp : 0 ≤ sp ∧ sp ≤ ml) (hcd : ∀ k : Int, 0 ≤ k → k < 80 → 0 ≤ cd k ∧ cd k ≤ 126) (hwr : wr = 0 ∨ wr = 1) (hlow : 0 ≤ low ∧ low ≤ 31) : MI l yX6_column cX6_column 5 .int { frames := 2, cells := 0, slots := 0, locals := 45 } D (zT cA cB) [.ref y, .int (zI low)] [cO y 6 [.ref ms, .ref ma, .ref mp, .int (zI np), .ref mk, .int (zI ik), .ref md, .int (zI ml), .ref me, .ref mo, .int (zI sp), .int (zI wr), .int (zI tp), .int (zI bt), .int (zI lf), .int (zI rg), .int (zI dp)], cI cA md 80 cd] (fun r w => ∃ (sp2 : Int), ∃ (wr2 : Int), w = [cO y 6 [.ref ms, .ref ma, .ref mp, .int (zI np), .ref mk, .int (zI ik), .ref md, .int (zI ml), .ref me, .ref mo, .int (zI sp2), .int (zI wr2), .int (zI tp), .int (zI bt), .int (zI lf), .int (zI rg), .int (zI dp)], cI cA md 80 cd] ∧ (CL cd ml sp wr low r sp2 wr2) ∧ (0 ≤ sp2 ∧ sp2 ≤ ml) ∧ (wr2 = 0 ∨ wr2 = 1) ∧ (0 ≤ r ∧ r ≤ 31)) := by
  refine MI.of RX6 ⟨rfl, by decide +kernel⟩ (Or.inl rfl) (Nat.le_of_ble_eq_true rfl) (fun h => by cases h) ?_
  intro K C hret
  change K 0 0 _ [(0, .ref y), (1, .int (zI low))] 0 []
  have hnr := nxt_r (cd := cd) (ml := ml) (sp := sp) hml hsp.1 hcd
  have hnl := nxt_lt (cd := cd) (ml := ml) (sp := sp)
  refine y_aload_n C 0 dX6_column_0 rfl ?_
  refine y_iconst C dX6_column_1 ?_
  refine y_bipush C dX6_column_2 (by decide +kernel) ?_
  refine y_mcalli C (m_X6_digit (l := l) (D := D) (cA := cA) (cB := cB) (y := y) (ms := ms) (ma := ma) (mp := mp) (mk := mk) (md := md) (me := me) (mo := mo) (np := np) (ik := ik) (ml := ml) (sp := sp) (wr := wr) (tp := tp) (bt := bt) (lf := lf) (rg := rg) (dp := dp) (cd := cd) (lo := 0) (hi := 9) (by first | assumption | omega | exact ⟨by omega, by omega⟩) (by first | assumption | omega | exact ⟨by omega, by omega⟩) (by first | assumption | omega | exact ⟨by omega, by omega⟩) (by first | assumption | omega | exact ⟨by omega, by omega⟩) (by first | assumption | omega | exact ⟨by omega, by omega⟩) (by first | assumption | omega | exact ⟨by omega, by omega⟩)) lk_X6_117 [0, 1] [] ⟨rfl, rfl, by decide, by decide, by decide⟩ (jb := 0) rfl rfl dX6_column_4 rfl rfl ⟨by exact Nat.le_of_ble_eq_true rfl, by exact Nat.le_of_ble_eq_true rfl, rfl, rfl, by exact Nat.le_of_ble_eq_true rfl, by exact Nat.le_of_ble_eq_true rfl, by exact Nat.le_of_ble_eq_true rfl⟩ (fun r_2 w_5 h_1 => ?_)
  obtain ⟨sp2_3, wr2_4, rfl, h_1⟩ := h_1
  refine ⟨[0, 1], [cO y 6 [.ref ms, .ref ma, .ref mp, .int (zI np), .ref mk, .int (zI ik), .ref md, .int (zI ml), .ref me, .ref mo, .int (zI sp2_3), .int (zI wr2_4), .int (zI tp), .int (zI bt), .int (zI lf), .int (zI rg), .int (zI dp)], cI cA md 80 cd], ⟨rfl, by decide⟩, ?_⟩
  have hd := (h_1).1
  have hd2 := (h_1).2
  refine y_istore_n C [(2, .int (zI r_2)), (0, .ref y), (1, .int (zI low))] dX6_column_7 (by decide) rfl ?_
  refine y_iload_n C 0 dX6_column_8 rfl ?_
  refine y_if_eq C 17 dX6_column_9 (by decide) ⟨by omega, by omega⟩ (fun c_6 => ?_) (fun c_6 => ?_)
  · refine y_iload_n C 0 dX6_column_17 rfl ?_
    refine y_goto C 38 dX6_column_18 (by decide) ?_
    refine y_istore_n C [(3, .int (zI r_2)), (2, .int (zI r_2)), (0, .ref y), (1, .int (zI low))] dX6_column_38 (by decide) rfl ?_
    refine y_aload_n C 2 dX6_column_39 rfl ?_
    refine y_get C fg_X6_109 0 dX6_column_40 rfl rfl ?_
    refine y_if_eq C 48 dX6_column_43 (by decide) ⟨by omega, by omega⟩ (fun c_7 => ?_) (fun c_7 => ?_)
    · have hgr : grt (nxt cd ml sp - 48) = r_2 := by unfold grt; (repeat' split) <;> omega
      refine y_iload_n C 0 dX6_column_48 rfl ?_
      refine y_iload_n C 3 dX6_column_49 rfl ?_
      refine y_icmp_ge C 70 dX6_column_50 (by decide) ⟨⟨by omega, by omega⟩, ⟨by omega, by omega⟩⟩ (fun c_8 => ?_) (fun c_8 => ?_)
      · have hnl2 := nxt_lt (cd := cd) (ml := ml) (sp := sp + 1)
        refine y_bipush C dX6_column_70 (by decide +kernel) ?_
        refine y_iload_n C 1 dX6_column_72 rfl ?_
        refine y_imul C dX6_column_73 ?_
        refine y_aload_n C 2 dX6_column_74 rfl ?_
        refine y_pcall C (m_X6_next (l := l) (D := D) (cA := cA) (cB := cB) (y := y) (ms := ms) (ma := ma) (mp := mp) (mk := mk) (md := md) (me := me) (mo := mo) (np := np) (ik := ik) (ml := ml) (sp := sp2_3) (wr := wr2_4) (tp := tp) (bt := bt) (lf := lf) (rg := rg) (dp := dp) (cd := cd) (by first | assumption | omega | exact ⟨by omega, by omega⟩) (by first | assumption | omega | exact ⟨by omega, by omega⟩) (by first | assumption | omega | exact ⟨by omega, by omega⟩)) lk_X6_113 [0, 1] [] [0, 1] ⟨rfl, rfl, by decide, by decide, by decide⟩ ⟨rfl, by decide⟩ rfl rfl dX6_column_75 rfl rfl ⟨by exact Nat.le_of_ble_eq_true rfl, by exact Nat.le_of_ble_eq_true rfl, rfl, rfl, by exact Nat.le_of_ble_eq_true rfl, by exact Nat.le_of_ble_eq_true rfl, by exact Nat.le_of_ble_eq_true rfl⟩ (fun r_10 h_9 => ?_)
        rw [show sp2_3 = sp + 1 from by omega] at h_9
        have hx1 := h_9
        refine y_iadd C dX6_column_78 ?_
        refine y_bipush C dX6_column_79 (by decide +kernel) ?_
        refine y_isub C dX6_column_81 ?_
        refine y_istore C [(4, .int (zI (((10 * r_2) + r_10) - 48))), (3, .int (zI r_2)), (2, .int (zI r_2)), (0, .ref y), (1, .int (zI low))] dX6_column_82 (by decide) rfl ?_
        refine y_aload_n C 3 dX6_column_84 rfl ?_
        refine y_pcall C (m_X6_next (l := l) (D := D) (cA := cA) (cB := cB) (y := y) (ms := ms) (ma := ma) (mp := mp) (mk := mk) (md := md) (me := me) (mo := mo) (np := np) (ik := ik) (ml := ml) (sp := sp2_3) (wr := wr2_4) (tp := tp) (bt := bt) (lf := lf) (rg := rg) (dp := dp) (cd := cd) (by first | assumption | omega | exact ⟨by omega, by omega⟩) (by first | assumption | omega | exact ⟨by omega, by omega⟩) (by first | assumption | omega | exact ⟨by omega, by omega⟩)) lk_X6_113 [0, 1] [] [0, 1] ⟨rfl, rfl, by decide, by decide, by decide⟩ ⟨rfl, by decide⟩ rfl rfl dX6_column_85 rfl rfl ⟨by exact Nat.le_of_ble_eq_true rfl, by exact Nat.le_of_ble_eq_true rfl, rfl, rfl, by exact Nat.le_of_ble_eq_true rfl, by exact Nat.le_of_ble_eq_true rfl, by exact Nat.le_of_ble_eq_true rfl⟩ (fun r_12 h_11 => ?_)
        rw [show sp2_3 = sp + 1 from by omega] at h_11
        have hx2 := h_11
        refine y_bipush C dX6_column_88 (by decide +kernel) ?_
        refine y_bipush C dX6_column_90 (by decide +kernel) ?_
        refine y_pcalls C (m_X6_in (l := l) (D := D) (cA := cA) (cB := cB) (vv := r_12) (lo := 48) (hi := 57) (by first | assumption | exact ⟨by omega, by omega⟩) (by first | assumption | exact ⟨by omega, by omega⟩) (by first | assumption | exact ⟨by omega, by omega⟩)) lk_X6_31 [] [0, 1] [0, 1] ⟨rfl, rfl, by decide, by decide, by decide⟩ ⟨rfl, by decide⟩ dX6_column_92 rfl rfl ⟨by exact Nat.le_of_ble_eq_true rfl, by exact Nat.le_of_ble_eq_true rfl, rfl, rfl, by exact Nat.le_of_ble_eq_true rfl, by exact Nat.le_of_ble_eq_true rfl, by exact Nat.le_of_ble_eq_true rfl⟩ (fun r_14 h_13 => ?_)
        have hk1 := h_13
        refine y_if_eq C 126 dX6_column_95 (by decide) ⟨by omega, by omega⟩ (fun c_15 => ?_) (fun c_15 => ?_)
        · refine y_aload_n C 3 dX6_column_126 rfl ?_
          refine y_iload_n C 2 dX6_column_127 rfl ?_
          refine y_iload_n C 4 dX6_column_128 rfl ?_
          refine y_icmp_ge C 136 dX6_column_129 (by decide) ⟨⟨by omega, by omega⟩, ⟨by omega, by omega⟩⟩ (fun c_16 => ?_) (fun c_16 => ?_)
          · refine y_iconst C dX6_column_136 ?_
            refine y_put C fp_X6_109 0 [cO y 6 [.ref ms, .ref ma, .ref mp, .int (zI np), .ref mk, .int (zI ik), .ref md, .int (zI ml), .ref me, .ref mo, .int (zI sp2_3), .int (zI 0), .int (zI tp), .int (zI bt), .int (zI lf), .int (zI rg), .int (zI dp)], cI cA md 80 cd] dX6_column_137 rfl (zbn (by omega)) (zbf (by omega)) (by exact Nat.le_of_ble_eq_true rfl) rfl ?_
            refine y_iload_n C 2 dX6_column_140 rfl ?_
            refine hret _ _ _ _ dX6_column_141 ⟨sp2_3, 0, rfl, ?_⟩
            show (CL cd ml sp wr low r_2 sp2_3 0) ∧ (0 ≤ sp2_3 ∧ sp2_3 ≤ ml) ∧ (0 = 0 ∨ 0 = 1) ∧ (0 ≤ r_2 ∧ r_2 ≤ 31)
            refine ⟨Or.inr ⟨by omega, by omega, by omega, by omega, Or.inr ⟨by omega, by omega, by omega, by omega⟩⟩, by omega, by omega, by omega⟩
          · refine y_iconst C dX6_column_132 ?_
            refine y_goto C 137 dX6_column_133 (by decide) ?_
            refine y_put C fp_X6_109 0 [cO y 6 [.ref ms, .ref ma, .ref mp, .int (zI np), .ref mk, .int (zI ik), .ref md, .int (zI ml), .ref me, .ref mo, .int (zI sp2_3), .int (zI 1), .int (zI tp), .int (zI bt), .int (zI lf), .int (zI rg), .int (zI dp)], cI cA md 80 cd] dX6_column_137 rfl (zbn (by omega)) (zbf (by omega)) (by exact Nat.le_of_ble_eq_true rfl) rfl ?_
            refine y_iload_n C 2 dX6_column_140 rfl ?_
            refine hret _ _ _ _ dX6_column_141 ⟨sp2_3, 1, rfl, ?_⟩
            show (CL cd ml sp wr low r_2 sp2_3 1) ∧ (0 ≤ sp2_3 ∧ sp2_3 ≤ ml) ∧ (1 = 0 ∨ 1 = 1) ∧ (0 ≤ r_2 ∧ r_2 ≤ 31)
            refine ⟨Or.inr ⟨by omega, by omega, by omega, by omega, Or.inr ⟨by omega, by omega, by omega, by omega⟩⟩, by omega, by omega, by omega⟩
        · refine y_iload_n C 2 dX6_column_98 rfl ?_
          refine y_if_le C 126 dX6_column_99 (by decide) ⟨by omega, by omega⟩ (fun c_17 => ?_) (fun c_17 => ?_)
          · refine y_aload_n C 3 dX6_column_126 rfl ?_
            refine y_iload_n C 2 dX6_column_127 rfl ?_
            refine y_iload_n C 4 dX6_column_128 rfl ?_
            refine y_icmp_ge C 136 dX6_column_129 (by decide) ⟨⟨by omega, by omega⟩, ⟨by omega, by omega⟩⟩ (fun c_18 => ?_) (fun c_18 => ?_)
            · refine y_iconst C dX6_column_136 ?_
              refine y_put C fp_X6_109 0 [cO y 6 [.ref ms, .ref ma, .ref mp, .int (zI np), .ref mk, .int (zI ik), .ref md, .int (zI ml), .ref me, .ref mo, .int (zI sp2_3), .int (zI 0), .int (zI tp), .int (zI bt), .int (zI lf), .int (zI rg), .int (zI dp)], cI cA md 80 cd] dX6_column_137 rfl (zbn (by omega)) (zbf (by omega)) (by exact Nat.le_of_ble_eq_true rfl) rfl ?_
              refine y_iload_n C 2 dX6_column_140 rfl ?_
              refine hret _ _ _ _ dX6_column_141 ⟨sp2_3, 0, rfl, ?_⟩
              show (CL cd ml sp wr low r_2 sp2_3 0) ∧ (0 ≤ sp2_3 ∧ sp2_3 ≤ ml) ∧ (0 = 0 ∨ 0 = 1) ∧ (0 ≤ r_2 ∧ r_2 ≤ 31)
              refine ⟨Or.inr ⟨by omega, by omega, by omega, by omega, Or.inr ⟨by omega, by omega, by omega, by omega⟩⟩, by omega, by omega, by omega⟩
            · refine y_iconst C dX6_column_132 ?_
              refine y_goto C 137 dX6_column_133 (by decide) ?_
              refine y_put C fp_X6_109 0 [cO y 6 [.ref ms, .ref ma, .ref mp, .int (zI np), .ref mk, .int (zI ik), .ref md, .int (zI ml), .ref me, .ref mo, .int (zI sp2_3), .int (zI 1), .int (zI tp), .int (zI bt), .int (zI lf), .int (zI rg), .int (zI dp)], cI cA md 80 cd] dX6_column_137 rfl (zbn (by omega)) (zbf (by omega)) (by exact Nat.le_of_ble_eq_true rfl) rfl ?_
              refine y_iload_n C 2 dX6_column_140 rfl ?_
              refine hret _ _ _ _ dX6_column_141 ⟨sp2_3, 1, rfl, ?_⟩
              show (CL cd ml sp wr low r_2 sp2_3 1) ∧ (0 ≤ sp2_3 ∧ sp2_3 ≤ ml) ∧ (1 = 0 ∨ 1 = 1) ∧ (0 ≤ r_2 ∧ r_2 ≤ 31)
              refine ⟨Or.inr ⟨by omega, by omega, by omega, by omega, Or.inr ⟨by omega, by omega, by omega, by omega⟩⟩, by omega, by omega, by omega⟩
          · refine y_iload C 0 dX6_column_102 rfl ?_
            refine y_iload_n C 4 dX6_column_104 rfl ?_
            refine y_bipush C dX6_column_105 (by decide +kernel) ?_
            refine y_pcalls C (m_X6_in (l := l) (D := D) (cA := cA) (cB := cB) (vv := ((10 * r_2) + r_10) - 48) (lo := low) (hi := 31) (by first | assumption | exact ⟨by omega, by omega⟩) (by first | assumption | exact ⟨by omega, by omega⟩) (by first | assumption | exact ⟨by omega, by omega⟩)) lk_X6_31 [] [0, 1] [0, 1] ⟨rfl, rfl, by decide, by decide, by decide⟩ ⟨rfl, by decide⟩ dX6_column_107 rfl rfl ⟨by exact Nat.le_of_ble_eq_true rfl, by exact Nat.le_of_ble_eq_true rfl, rfl, rfl, by exact Nat.le_of_ble_eq_true rfl, by exact Nat.le_of_ble_eq_true rfl, by exact Nat.le_of_ble_eq_true rfl⟩ (fun r_20 h_19 => ?_)
            have hk2 := h_19
            refine y_if_eq C 126 dX6_column_110 (by decide) ⟨by omega, by omega⟩ (fun c_21 => ?_) (fun c_21 => ?_)
            · refine y_aload_n C 3 dX6_column_126 rfl ?_
              refine y_iload_n C 2 dX6_column_127 rfl ?_
              refine y_iload_n C 4 dX6_column_128 rfl ?_
              refine y_icmp_ge C 136 dX6_column_129 (by decide) ⟨⟨by omega, by omega⟩, ⟨by omega, by omega⟩⟩ (fun c_22 => ?_) (fun c_22 => ?_)
              · refine y_iconst C dX6_column_136 ?_
                refine y_put C fp_X6_109 0 [cO y 6 [.ref ms, .ref ma, .ref mp, .int (zI np), .ref mk, .int (zI ik), .ref md, .int (zI ml), .ref me, .ref mo, .int (zI sp2_3), .int (zI 0), .int (zI tp), .int (zI bt), .int (zI lf), .int (zI rg), .int (zI dp)], cI cA md 80 cd] dX6_column_137 rfl (zbn (by omega)) (zbf (by omega)) (by exact Nat.le_of_ble_eq_true rfl) rfl ?_
                refine y_iload_n C 2 dX6_column_140 rfl ?_
                refine hret _ _ _ _ dX6_column_141 ⟨sp2_3, 0, rfl, ?_⟩
                show (CL cd ml sp wr low r_2 sp2_3 0) ∧ (0 ≤ sp2_3 ∧ sp2_3 ≤ ml) ∧ (0 = 0 ∨ 0 = 1) ∧ (0 ≤ r_2 ∧ r_2 ≤ 31)
                refine ⟨Or.inr ⟨by omega, by omega, by omega, by omega, Or.inr ⟨by omega, by omega, by omega, by omega⟩⟩, by omega, by omega, by omega⟩
              · refine y_iconst C dX6_column_132 ?_
                refine y_goto C 137 dX6_column_133 (by decide) ?_
                refine y_put C fp_X6_109 0 [cO y 6 [.ref ms, .ref ma, .ref mp, .int (zI np), .ref mk, .int (zI ik), .ref md, .int (zI ml), .ref me, .ref mo, .int (zI sp2_3), .int (zI 1), .int (zI tp), .int (zI bt), .int (zI lf), .int (zI rg), .int (zI dp)], cI cA md 80 cd] dX6_column_137 rfl (zbn (by omega)) (zbf (by omega)) (by exact Nat.le_of_ble_eq_true rfl) rfl ?_
                refine y_iload_n C 2 dX6_column_140 rfl ?_
                refine hret _ _ _ _ dX6_column_141 ⟨sp2_3, 1, rfl, ?_⟩
                show (CL cd ml sp wr low r_2 sp2_3 1) ∧ (0 ≤ sp2_3 ∧ sp2_3 ≤ ml) ∧ (1 = 0 ∨ 1 = 1) ∧ (0 ≤ r_2 ∧ r_2 ≤ 31)
                refine ⟨Or.inr ⟨by omega, by omega, by omega, by omega, Or.inr ⟨by omega, by omega, by omega, by omega⟩⟩, by omega, by omega, by omega⟩
            · refine y_aload_n C 3 dX6_column_113 rfl ?_
              refine y_dup C dX6_column_114 rfl ?_
              refine y_get C fg_X6_106 0 dX6_column_115 rfl rfl ?_
              refine y_iconst C dX6_column_118 ?_
              refine y_iadd C dX6_column_119 ?_
              refine y_put C fp_X6_106 0 [cO y 6 [.ref ms, .ref ma, .ref mp, .int (zI np), .ref mk, .int (zI ik), .ref md, .int (zI ml), .ref me, .ref mo, .int (zI (sp2_3 + 1)), .int (zI wr2_4), .int (zI tp), .int (zI bt), .int (zI lf), .int (zI rg), .int (zI dp)], cI cA md 80 cd] dX6_column_120 rfl rfl rfl (by exact Nat.le_of_ble_eq_true rfl) rfl ?_
              refine y_iload C 0 dX6_column_123 rfl ?_
              refine hret _ _ _ _ dX6_column_125 ⟨(sp2_3 + 1), wr2_4, rfl, ?_⟩
              show (CL cd ml sp wr low (((10 * r_2) + r_10) - 48) (sp2_3 + 1) wr2_4) ∧ (0 ≤ (sp2_3 + 1) ∧ (sp2_3 + 1) ≤ ml) ∧ (wr2_4 = 0 ∨ wr2_4 = 1) ∧ (0 ≤ (((10 * r_2) + r_10) - 48) ∧ (((10 * r_2) + r_10) - 48) ≤ 31)
              refine ⟨Or.inr ⟨by omega, by omega, by omega, by omega, Or.inl ⟨by omega, by omega, by omega, by omega, by omega⟩⟩, by omega, by omega, by omega⟩
      · refine y_aload_n C 2 dX6_column_53 rfl ?_
        refine y_dup C dX6_column_54 rfl ?_
        refine y_get C fg_X6_106 0 dX6_column_55 rfl rfl ?_
        refine y_iconst C dX6_column_58 ?_
        refine y_isub C dX6_column_59 ?_
        refine y_put C fp_X6_106 0 [cO y 6 [.ref ms, .ref ma, .ref mp, .int (zI np), .ref mk, .int (zI ik), .ref md, .int (zI ml), .ref me, .ref mo, .int (zI (sp2_3 - 1)), .int (zI wr2_4), .int (zI tp), .int (zI bt), .int (zI lf), .int (zI rg), .int (zI dp)], cI cA md 80 cd] dX6_column_60 rfl rfl rfl (by exact Nat.le_of_ble_eq_true rfl) rfl ?_
        refine y_aload_n C 2 dX6_column_63 rfl ?_
        refine y_iconst C dX6_column_64 ?_
        refine y_put C fp_X6_109 0 [cO y 6 [.ref ms, .ref ma, .ref mp, .int (zI np), .ref mk, .int (zI ik), .ref md, .int (zI ml), .ref me, .ref mo, .int (zI (sp2_3 - 1)), .int (zI 1), .int (zI tp), .int (zI bt), .int (zI lf), .int (zI rg), .int (zI dp)], cI cA md 80 cd] dX6_column_65 rfl (zbn (by omega)) (zbf (by omega)) (by exact Nat.le_of_ble_eq_true rfl) rfl ?_
        refine y_iconst C dX6_column_68 ?_
        refine hret _ _ _ _ dX6_column_69 ⟨(sp2_3 - 1), 1, rfl, ?_⟩
        show (CL cd ml sp wr low 0 (sp2_3 - 1) 1) ∧ (0 ≤ (sp2_3 - 1) ∧ (sp2_3 - 1) ≤ ml) ∧ (1 = 0 ∨ 1 = 1) ∧ (0 ≤ 0 ∧ 0 ≤ 31)
        refine ⟨Or.inl ⟨by omega, by omega, by omega⟩, by omega, by omega, by omega⟩
    · refine y_iconst C dX6_column_46 ?_
      refine hret _ _ _ _ dX6_column_47 ⟨sp2_3, wr2_4, rfl, ?_⟩
      show (CL cd ml sp wr low 0 sp2_3 wr2_4) ∧ (0 ≤ sp2_3 ∧ sp2_3 ≤ ml) ∧ (wr2_4 = 0 ∨ wr2_4 = 1) ∧ (0 ≤ 0 ∧ 0 ≤ 31)
      refine ⟨Or.inl ⟨by omega, by omega, by omega⟩, by omega, by omega, by omega⟩
  · refine y_iload_n C 0 dX6_column_12 rfl ?_
    refine y_iconst C dX6_column_13 ?_
    refine y_icmp_le C 21 dX6_column_14 (by decide) ⟨⟨by omega, by omega⟩, ⟨by omega, by omega⟩⟩ (fun c_23 => ?_) (fun c_23 => ?_)
    · refine y_iload_n C 0 dX6_column_21 rfl ?_
      refine y_iconst C dX6_column_22 ?_
      refine y_icmp_ne C 31 dX6_column_23 (by decide) ⟨⟨by omega, by omega⟩, ⟨by omega, by omega⟩⟩ (fun c_24 => ?_) (fun c_24 => ?_)
      · refine y_bipush C dX6_column_31 (by decide +kernel) ?_
        refine y_iload_n C 0 dX6_column_33 rfl ?_
        refine y_imul C dX6_column_34 ?_
        refine y_bipush C dX6_column_35 (by decide +kernel) ?_
        refine y_iadd C dX6_column_37 ?_
        refine y_istore_n C [(3, .int (zI ((10 * r_2) + 9))), (2, .int (zI r_2)), (0, .ref y), (1, .int (zI low))] dX6_column_38 (by decide) rfl ?_
        refine y_aload_n C 2 dX6_column_39 rfl ?_
        refine y_get C fg_X6_109 0 dX6_column_40 rfl rfl ?_
        refine y_if_eq C 48 dX6_column_43 (by decide) ⟨by omega, by omega⟩ (fun c_25 => ?_) (fun c_25 => ?_)
        · have hgr : grt (nxt cd ml sp - 48) = ((10 * r_2) + 9) := by unfold grt; (repeat' split) <;> omega
          refine y_iload_n C 0 dX6_column_48 rfl ?_
          refine y_iload_n C 3 dX6_column_49 rfl ?_
          refine y_icmp_ge C 70 dX6_column_50 (by decide) ⟨⟨by omega, by omega⟩, ⟨by omega, by omega⟩⟩ (fun c_26 => ?_) (fun c_26 => ?_)
          · have hnl2 := nxt_lt (cd := cd) (ml := ml) (sp := sp + 1)
            refine y_bipush C dX6_column_70 (by decide +kernel) ?_
            refine y_iload_n C 1 dX6_column_72 rfl ?_
            refine y_imul C dX6_column_73 ?_
            refine y_aload_n C 2 dX6_column_74 rfl ?_
            refine y_pcall C (m_X6_next (l := l) (D := D) (cA := cA) (cB := cB) (y := y) (ms := ms) (ma := ma) (mp := mp) (mk := mk) (md := md) (me := me) (mo := mo) (np := np) (ik := ik) (ml := ml) (sp := sp2_3) (wr := wr2_4) (tp := tp) (bt := bt) (lf := lf) (rg := rg) (dp := dp) (cd := cd) (by first | assumption | omega | exact ⟨by omega, by omega⟩) (by first | assumption | omega | exact ⟨by omega, by omega⟩) (by first | assumption | omega | exact ⟨by omega, by omega⟩)) lk_X6_113 [0, 1] [] [0, 1] ⟨rfl, rfl, by decide, by decide, by decide⟩ ⟨rfl, by decide⟩ rfl rfl dX6_column_75 rfl rfl ⟨by exact Nat.le_of_ble_eq_true rfl, by exact Nat.le_of_ble_eq_true rfl, rfl, rfl, by exact Nat.le_of_ble_eq_true rfl, by exact Nat.le_of_ble_eq_true rfl, by exact Nat.le_of_ble_eq_true rfl⟩ (fun r_28 h_27 => ?_)
            rw [show sp2_3 = sp + 1 from by omega] at h_27
            have hx1 := h_27
            refine y_iadd C dX6_column_78 ?_
            refine y_bipush C dX6_column_79 (by decide +kernel) ?_
            refine y_isub C dX6_column_81 ?_
            refine y_istore C [(4, .int (zI (((10 * r_2) + r_28) - 48))), (3, .int (zI ((10 * r_2) + 9))), (2, .int (zI r_2)), (0, .ref y), (1, .int (zI low))] dX6_column_82 (by decide) rfl ?_
            refine y_aload_n C 3 dX6_column_84 rfl ?_
            refine y_pcall C (m_X6_next (l := l) (D := D) (cA := cA) (cB := cB) (y := y) (ms := ms) (ma := ma) (mp := mp) (mk := mk) (md := md) (me := me) (mo := mo) (np := np) (ik := ik) (ml := ml) (sp := sp2_3) (wr := wr2_4) (tp := tp) (bt := bt) (lf := lf) (rg := rg) (dp := dp) (cd := cd) (by first | assumption | omega | exact ⟨by omega, by omega⟩) (by first | assumption | omega | exact ⟨by omega, by omega⟩) (by first | assumption | omega | exact ⟨by omega, by omega⟩)) lk_X6_113 [0, 1] [] [0, 1] ⟨rfl, rfl, by decide, by decide, by decide⟩ ⟨rfl, by decide⟩ rfl rfl dX6_column_85 rfl rfl ⟨by exact Nat.le_of_ble_eq_true rfl, by exact Nat.le_of_ble_eq_true rfl, rfl, rfl, by exact Nat.le_of_ble_eq_true rfl, by exact Nat.le_of_ble_eq_true rfl, by exact Nat.le_of_ble_eq_true rfl⟩ (fun r_30 h_29 => ?_)
            rw [show sp2_3 = sp + 1 from by omega] at h_29
            have hx2 := h_29
            refine y_bipush C dX6_column_88 (by decide +kernel) ?_
            refine y_bipush C dX6_column_90 (by decide +kernel) ?_
            refine y_pcalls C (m_X6_in (l := l) (D := D) (cA := cA) (cB := cB) (vv := r_30) (lo := 48) (hi := 57) (by first | assumption | exact ⟨by omega, by omega⟩) (by first | assumption | exact ⟨by omega, by omega⟩) (by first | assumption | exact ⟨by omega, by omega⟩)) lk_X6_31 [] [0, 1] [0, 1] ⟨rfl, rfl, by decide, by decide, by decide⟩ ⟨rfl, by decide⟩ dX6_column_92 rfl rfl ⟨by exact Nat.le_of_ble_eq_true rfl, by exact Nat.le_of_ble_eq_true rfl, rfl, rfl, by exact Nat.le_of_ble_eq_true rfl, by exact Nat.le_of_ble_eq_true rfl, by exact Nat.le_of_ble_eq_true rfl⟩ (fun r_32 h_31 => ?_)
            have hk1 := h_31
            refine y_if_eq C 126 dX6_column_95 (by decide) ⟨by omega, by omega⟩ (fun c_33 => ?_) (fun c_33 => ?_)
            · refine y_aload_n C 3 dX6_column_126 rfl ?_
              refine y_iload_n C 2 dX6_column_127 rfl ?_
              refine y_iload_n C 4 dX6_column_128 rfl ?_
              refine y_icmp_ge C 136 dX6_column_129 (by decide) ⟨⟨by omega, by omega⟩, ⟨by omega, by omega⟩⟩ (fun c_34 => ?_) (fun c_34 => ?_)
              · refine y_iconst C dX6_column_136 ?_
                refine y_put C fp_X6_109 0 [cO y 6 [.ref ms, .ref ma, .ref mp, .int (zI np), .ref mk, .int (zI ik), .ref md, .int (zI ml), .ref me, .ref mo, .int (zI sp2_3), .int (zI 0), .int (zI tp), .int (zI bt), .int (zI lf), .int (zI rg), .int (zI dp)], cI cA md 80 cd] dX6_column_137 rfl (zbn (by omega)) (zbf (by omega)) (by exact Nat.le_of_ble_eq_true rfl) rfl ?_
                refine y_iload_n C 2 dX6_column_140 rfl ?_
                refine hret _ _ _ _ dX6_column_141 ⟨sp2_3, 0, rfl, ?_⟩
                show (CL cd ml sp wr low r_2 sp2_3 0) ∧ (0 ≤ sp2_3 ∧ sp2_3 ≤ ml) ∧ (0 = 0 ∨ 0 = 1) ∧ (0 ≤ r_2 ∧ r_2 ≤ 31)
                refine ⟨Or.inr ⟨by omega, by omega, by omega, by omega, Or.inr ⟨by omega, by omega, by omega, by omega⟩⟩, by omega, by omega, by omega⟩
              · refine y_iconst C dX6_column_132 ?_
                refine y_goto C 137 dX6_column_133 (by decide) ?_
                refine y_put C fp_X6_109 0 [cO y 6 [.ref ms, .ref ma, .ref mp, .int (zI np), .ref mk, .int (zI ik), .ref md, .int (zI ml), .ref me, .ref mo, .int (zI sp2_3), .int (zI 1), .int (zI tp), .int (zI bt), .int (zI lf), .int (zI rg), .int (zI dp)], cI cA md 80 cd] dX6_column_137 rfl (zbn (by omega)) (zbf (by omega)) (by exact Nat.le_of_ble_eq_true rfl) rfl ?_
                refine y_iload_n C 2 dX6_column_140 rfl ?_
                refine hret _ _ _ _ dX6_column_141 ⟨sp2_3, 1, rfl, ?_⟩
                show (CL cd ml sp wr low r_2 sp2_3 1) ∧ (0 ≤ sp2_3 ∧ sp2_3 ≤ ml) ∧ (1 = 0 ∨ 1 = 1) ∧ (0 ≤ r_2 ∧ r_2 ≤ 31)
                refine ⟨Or.inr ⟨by omega, by omega, by omega, by omega, Or.inr ⟨by omega, by omega, by omega, by omega⟩⟩, by omega, by omega, by omega⟩
            · refine y_iload_n C 2 dX6_column_98 rfl ?_
              refine y_if_le C 126 dX6_column_99 (by decide) ⟨by omega, by omega⟩ (fun c_35 => ?_) (fun c_35 => ?_)
              · refine y_aload_n C 3 dX6_column_126 rfl ?_
                refine y_iload_n C 2 dX6_column_127 rfl ?_
                refine y_iload_n C 4 dX6_column_128 rfl ?_
                refine y_icmp_ge C 136 dX6_column_129 (by decide) ⟨⟨by omega, by omega⟩, ⟨by omega, by omega⟩⟩ (fun c_36 => ?_) (fun c_36 => ?_)
                · refine y_iconst C dX6_column_136 ?_
                  refine y_put C fp_X6_109 0 [cO y 6 [.ref ms, .ref ma, .ref mp, .int (zI np), .ref mk, .int (zI ik), .ref md, .int (zI ml), .ref me, .ref mo, .int (zI sp2_3), .int (zI 0), .int (zI tp), .int (zI bt), .int (zI lf), .int (zI rg), .int (zI dp)], cI cA md 80 cd] dX6_column_137 rfl (zbn (by omega)) (zbf (by omega)) (by exact Nat.le_of_ble_eq_true rfl) rfl ?_
                  refine y_iload_n C 2 dX6_column_140 rfl ?_
                  refine hret _ _ _ _ dX6_column_141 ⟨sp2_3, 0, rfl, ?_⟩
                  show (CL cd ml sp wr low r_2 sp2_3 0) ∧ (0 ≤ sp2_3 ∧ sp2_3 ≤ ml) ∧ (0 = 0 ∨ 0 = 1) ∧ (0 ≤ r_2 ∧ r_2 ≤ 31)
                  refine ⟨Or.inr ⟨by omega, by omega, by omega, by omega, Or.inr ⟨by omega, by omega, by omega, by omega⟩⟩, by omega, by omega, by omega⟩
                · refine y_iconst C dX6_column_132 ?_
                  refine y_goto C 137 dX6_column_133 (by decide) ?_
                  refine y_put C fp_X6_109 0 [cO y 6 [.ref ms, .ref ma, .ref mp, .int (zI np), .ref mk, .int (zI ik), .ref md, .int (zI ml), .ref me, .ref mo, .int (zI sp2_3), .int (zI 1), .int (zI tp), .int (zI bt), .int (zI lf), .int (zI rg), .int (zI dp)], cI cA md 80 cd] dX6_column_137 rfl (zbn (by omega)) (zbf (by omega)) (by exact Nat.le_of_ble_eq_true rfl) rfl ?_
                  refine y_iload_n C 2 dX6_column_140 rfl ?_
                  refine hret _ _ _ _ dX6_column_141 ⟨sp2_3, 1, rfl, ?_⟩
                  show (CL cd ml sp wr low r_2 sp2_3 1) ∧ (0 ≤ sp2_3 ∧ sp2_3 ≤ ml) ∧ (1 = 0 ∨ 1 = 1) ∧ (0 ≤ r_2 ∧ r_2 ≤ 31)
                  refine ⟨Or.inr ⟨by omega, by omega, by omega, by omega, Or.inr ⟨by omega, by omega, by omega, by omega⟩⟩, by omega, by omega, by omega⟩
              · refine y_iload C 0 dX6_column_102 rfl ?_
                refine y_iload_n C 4 dX6_column_104 rfl ?_
                refine y_bipush C dX6_column_105 (by decide +kernel) ?_
                refine y_pcalls C (m_X6_in (l := l) (D := D) (cA := cA) (cB := cB) (vv := ((10 * r_2) + r_28) - 48) (lo := low) (hi := 31) (by first | assumption | exact ⟨by omega, by omega⟩) (by first | assumption | exact ⟨by omega, by omega⟩) (by first | assumption | exact ⟨by omega, by omega⟩)) lk_X6_31 [] [0, 1] [0, 1] ⟨rfl, rfl, by decide, by decide, by decide⟩ ⟨rfl, by decide⟩ dX6_column_107 rfl rfl ⟨by exact Nat.le_of_ble_eq_true rfl, by exact Nat.le_of_ble_eq_true rfl, rfl, rfl, by exact Nat.le_of_ble_eq_true rfl, by exact Nat.le_of_ble_eq_true rfl, by exact Nat.le_of_ble_eq_true rfl⟩ (fun r_38 h_37 => ?_)
                have hk2 := h_37
                refine y_if_eq C 126 dX6_column_110 (by decide) ⟨by omega, by omega⟩ (fun c_39 => ?_) (fun c_39 => ?_)
                · refine y_aload_n C 3 dX6_column_126 rfl ?_
                  refine y_iload_n C 2 dX6_column_127 rfl ?_
                  refine y_iload_n C 4 dX6_column_128 rfl ?_
                  refine y_icmp_ge C 136 dX6_column_129 (by decide) ⟨⟨by omega, by omega⟩, ⟨by omega, by omega⟩⟩ (fun c_40 => ?_) (fun c_40 => ?_)
                  · refine y_iconst C dX6_column_136 ?_
                    refine y_put C fp_X6_109 0 [cO y 6 [.ref ms, .ref ma, .ref mp, .int (zI np), .ref mk, .int (zI ik), .ref md, .int (zI ml), .ref me, .ref mo, .int (zI sp2_3), .int (zI 0), .int (zI tp), .int (zI bt), .int (zI lf), .int (zI rg), .int (zI dp)], cI cA md 80 cd] dX6_column_137 rfl (zbn (by omega)) (zbf (by omega)) (by exact Nat.le_of_ble_eq_true rfl) rfl ?_
                    refine y_iload_n C 2 dX6_column_140 rfl ?_
                    refine hret _ _ _ _ dX6_column_141 ⟨sp2_3, 0, rfl, ?_⟩
                    show (CL cd ml sp wr low r_2 sp2_3 0) ∧ (0 ≤ sp2_3 ∧ sp2_3 ≤ ml) ∧ (0 = 0 ∨ 0 = 1) ∧ (0 ≤ r_2 ∧ r_2 ≤ 31)
                    refine ⟨Or.inr ⟨by omega, by omega, by omega, by omega, Or.inr ⟨by omega, by omega, by omega, by omega⟩⟩, by omega, by omega, by omega⟩
                  · refine y_iconst C dX6_column_132 ?_
                    refine y_goto C 137 dX6_column_133 (by decide) ?_
                    refine y_put C fp_X6_109 0 [cO y 6 [.ref ms, .ref ma, .ref mp, .int (zI np), .ref mk, .int (zI ik), .ref md, .int (zI ml), .ref me, .ref mo, .int (zI sp2_3), .int (zI 1), .int (zI tp), .int (zI bt), .int (zI lf), .int (zI rg), .int (zI dp)], cI cA md 80 cd] dX6_column_137 rfl (zbn (by omega)) (zbf (by omega)) (by exact Nat.le_of_ble_eq_true rfl) rfl ?_
                    refine y_iload_n C 2 dX6_column_140 rfl ?_
                    refine hret _ _ _ _ dX6_column_141 ⟨sp2_3, 1, rfl, ?_⟩
                    show (CL cd ml sp wr low r_2 sp2_3 1) ∧ (0 ≤ sp2_3 ∧ sp2_3 ≤ ml) ∧ (1 = 0 ∨ 1 = 1) ∧ (0 ≤ r_2 ∧ r_2 ≤ 31)
                    refine ⟨Or.inr ⟨by omega, by omega, by omega, by omega, Or.inr ⟨by omega, by omega, by omega, by omega⟩⟩, by omega, by omega, by omega⟩
                · refine y_aload_n C 3 dX6_column_113 rfl ?_
                  refine y_dup C dX6_column_114 rfl ?_
                  refine y_get C fg_X6_106 0 dX6_column_115 rfl rfl ?_
                  refine y_iconst C dX6_column_118 ?_
                  refine y_iadd C dX6_column_119 ?_
                  refine y_put C fp_X6_106 0 [cO y 6 [.ref ms, .ref ma, .ref mp, .int (zI np), .ref mk, .int (zI ik), .ref md, .int (zI ml), .ref me, .ref mo, .int (zI (sp2_3 + 1)), .int (zI wr2_4), .int (zI tp), .int (zI bt), .int (zI lf), .int (zI rg), .int (zI dp)], cI cA md 80 cd] dX6_column_120 rfl rfl rfl (by exact Nat.le_of_ble_eq_true rfl) rfl ?_
                  refine y_iload C 0 dX6_column_123 rfl ?_
                  refine hret _ _ _ _ dX6_column_125 ⟨(sp2_3 + 1), wr2_4, rfl, ?_⟩
                  show (CL cd ml sp wr low (((10 * r_2) + r_28) - 48) (sp2_3 + 1) wr2_4) ∧ (0 ≤ (sp2_3 + 1) ∧ (sp2_3 + 1) ≤ ml) ∧ (wr2_4 = 0 ∨ wr2_4 = 1) ∧ (0 ≤ (((10 * r_2) + r_28) - 48) ∧ (((10 * r_2) + r_28) - 48) ≤ 31)
                  refine ⟨Or.inr ⟨by omega, by omega, by omega, by omega, Or.inl ⟨by omega, by omega, by omega, by omega, by omega⟩⟩, by omega, by omega, by omega⟩
          · refine y_aload_n C 2 dX6_column_53 rfl ?_
            refine y_dup C dX6_column_54 rfl ?_
            refine y_get C fg_X6_106 0 dX6_column_55 rfl rfl ?_
            refine y_iconst C dX6_column_58 ?_
            refine y_isub C dX6_column_59 ?_
            refine y_put C fp_X6_106 0 [cO y 6 [.ref ms, .ref ma, .ref mp, .int (zI np), .ref mk, .int (zI ik), .ref md, .int (zI ml), .ref me, .ref mo, .int (zI (sp2_3 - 1)), .int (zI wr2_4), .int (zI tp), .int (zI bt), .int (zI lf), .int (zI rg), .int (zI dp)], cI cA md 80 cd] dX6_column_60 rfl rfl rfl (by exact Nat.le_of_ble_eq_true rfl) rfl ?_
            refine y_aload_n C 2 dX6_column_63 rfl ?_
            refine y_iconst C dX6_column_64 ?_
            refine y_put C fp_X6_109 0 [cO y 6 [.ref ms, .ref ma, .ref mp, .int (zI np), .ref mk, .int (zI ik), .ref md, .int (zI ml), .ref me, .ref mo, .int (zI (sp2_3 - 1)), .int (zI 1), .int (zI tp), .int (zI bt), .int (zI lf), .int (zI rg), .int (zI dp)], cI cA md 80 cd] dX6_column_65 rfl (zbn (by omega)) (zbf (by omega)) (by exact Nat.le_of_ble_eq_true rfl) rfl ?_
            refine y_iconst C dX6_column_68 ?_
            refine hret _ _ _ _ dX6_column_69 ⟨(sp2_3 - 1), 1, rfl, ?_⟩
            show (CL cd ml sp wr low 0 (sp2_3 - 1) 1) ∧ (0 ≤ (sp2_3 - 1) ∧ (sp2_3 - 1) ≤ ml) ∧ (1 = 0 ∨ 1 = 1) ∧ (0 ≤ 0 ∧ 0 ≤ 31)
            refine ⟨Or.inl ⟨by omega, by omega, by omega⟩, by omega, by omega, by omega⟩
        · refine y_iconst C dX6_column_46 ?_
          refine hret _ _ _ _ dX6_column_47 ⟨sp2_3, wr2_4, rfl, ?_⟩
          show (CL cd ml sp wr low 0 sp2_3 wr2_4) ∧ (0 ≤ sp2_3 ∧ sp2_3 ≤ ml) ∧ (wr2_4 = 0 ∨ wr2_4 = 1) ∧ (0 ≤ 0 ∧ 0 ≤ 31)
          refine ⟨Or.inl ⟨by omega, by omega, by omega⟩, by omega, by omega, by omega⟩
      · refine y_bipush C dX6_column_26 (by decide +kernel) ?_
        refine y_goto C 38 dX6_column_28 (by decide) ?_
        refine y_istore_n C [(3, .int (zI 31)), (2, .int (zI r_2)), (0, .ref y), (1, .int (zI low))] dX6_column_38 (by decide) rfl ?_
        refine y_aload_n C 2 dX6_column_39 rfl ?_
        refine y_get C fg_X6_109 0 dX6_column_40 rfl rfl ?_
        refine y_if_eq C 48 dX6_column_43 (by decide) ⟨by omega, by omega⟩ (fun c_41 => ?_) (fun c_41 => ?_)
        · have hgr : grt (nxt cd ml sp - 48) = (31 : Int) := by unfold grt; (repeat' split) <;> omega
          refine y_iload_n C 0 dX6_column_48 rfl ?_
          refine y_iload_n C 3 dX6_column_49 rfl ?_
          refine y_icmp_ge C 70 dX6_column_50 (by decide) ⟨⟨by omega, by omega⟩, ⟨by omega, by omega⟩⟩ (fun c_42 => ?_) (fun c_42 => ?_)
          · have hnl2 := nxt_lt (cd := cd) (ml := ml) (sp := sp + 1)
            refine y_bipush C dX6_column_70 (by decide +kernel) ?_
            refine y_iload_n C 1 dX6_column_72 rfl ?_
            refine y_imul C dX6_column_73 ?_
            refine y_aload_n C 2 dX6_column_74 rfl ?_
            refine y_pcall C (m_X6_next (l := l) (D := D) (cA := cA) (cB := cB) (y := y) (ms := ms) (ma := ma) (mp := mp) (mk := mk) (md := md) (me := me) (mo := mo) (np := np) (ik := ik) (ml := ml) (sp := sp2_3) (wr := wr2_4) (tp := tp) (bt := bt) (lf := lf) (rg := rg) (dp := dp) (cd := cd) (by first | assumption | omega | exact ⟨by omega, by omega⟩) (by first | assumption | omega | exact ⟨by omega, by omega⟩) (by first | assumption | omega | exact ⟨by omega, by omega⟩)) lk_X6_113 [0, 1] [] [0, 1] ⟨rfl, rfl, by decide, by decide, by decide⟩ ⟨rfl, by decide⟩ rfl rfl dX6_column_75 rfl rfl ⟨by exact Nat.le_of_ble_eq_true rfl, by exact Nat.le_of_ble_eq_true rfl, rfl, rfl, by exact Nat.le_of_ble_eq_true rfl, by exact Nat.le_of_ble_eq_true rfl, by exact Nat.le_of_ble_eq_true rfl⟩ (fun r_44 h_43 => ?_)
            rw [show sp2_3 = sp + 1 from by omega] at h_43
            have hx1 := h_43
            refine y_iadd C dX6_column_78 ?_
            refine y_bipush C dX6_column_79 (by decide +kernel) ?_
            refine y_isub C dX6_column_81 ?_
            refine y_istore C [(4, .int (zI (((10 * r_2) + r_44) - 48))), (3, .int (zI 31)), (2, .int (zI r_2)), (0, .ref y), (1, .int (zI low))] dX6_column_82 (by decide) rfl ?_
            refine y_aload_n C 3 dX6_column_84 rfl ?_
            refine y_pcall C (m_X6_next (l := l) (D := D) (cA := cA) (cB := cB) (y := y) (ms := ms) (ma := ma) (mp := mp) (mk := mk) (md := md) (me := me) (mo := mo) (np := np) (ik := ik) (ml := ml) (sp := sp2_3) (wr := wr2_4) (tp := tp) (bt := bt) (lf := lf) (rg := rg) (dp := dp) (cd := cd) (by first | assumption | omega | exact ⟨by omega, by omega⟩) (by first | assumption | omega | exact ⟨by omega, by omega⟩) (by first | assumption | omega | exact ⟨by omega, by omega⟩)) lk_X6_113 [0, 1] [] [0, 1] ⟨rfl, rfl, by decide, by decide, by decide⟩ ⟨rfl, by decide⟩ rfl rfl dX6_column_85 rfl rfl ⟨by exact Nat.le_of_ble_eq_true rfl, by exact Nat.le_of_ble_eq_true rfl, rfl, rfl, by exact Nat.le_of_ble_eq_true rfl, by exact Nat.le_of_ble_eq_true rfl, by exact Nat.le_of_ble_eq_true rfl⟩ (fun r_46 h_45 => ?_)
            rw [show sp2_3 = sp + 1 from by omega] at h_45
            have hx2 := h_45
            refine y_bipush C dX6_column_88 (by decide +kernel) ?_
            refine y_bipush C dX6_column_90 (by decide +kernel) ?_
            refine y_pcalls C (m_X6_in (l := l) (D := D) (cA := cA) (cB := cB) (vv := r_46) (lo := 48) (hi := 57) (by first | assumption | exact ⟨by omega, by omega⟩) (by first | assumption | exact ⟨by omega, by omega⟩) (by first | assumption | exact ⟨by omega, by omega⟩)) lk_X6_31 [] [0, 1] [0, 1] ⟨rfl, rfl, by decide, by decide, by decide⟩ ⟨rfl, by decide⟩ dX6_column_92 rfl rfl ⟨by exact Nat.le_of_ble_eq_true rfl, by exact Nat.le_of_ble_eq_true rfl, rfl, rfl, by exact Nat.le_of_ble_eq_true rfl, by exact Nat.le_of_ble_eq_true rfl, by exact Nat.le_of_ble_eq_true rfl⟩ (fun r_48 h_47 => ?_)
            have hk1 := h_47
            refine y_if_eq C 126 dX6_column_95 (by decide) ⟨by omega, by omega⟩ (fun c_49 => ?_) (fun c_49 => ?_)
            · refine y_aload_n C 3 dX6_column_126 rfl ?_
              refine y_iload_n C 2 dX6_column_127 rfl ?_
              refine y_iload_n C 4 dX6_column_128 rfl ?_
              refine y_icmp_ge C 136 dX6_column_129 (by decide) ⟨⟨by omega, by omega⟩, ⟨by omega, by omega⟩⟩ (fun c_50 => ?_) (fun c_50 => ?_)
              · refine y_iconst C dX6_column_136 ?_
                refine y_put C fp_X6_109 0 [cO y 6 [.ref ms, .ref ma, .ref mp, .int (zI np), .ref mk, .int (zI ik), .ref md, .int (zI ml), .ref me, .ref mo, .int (zI sp2_3), .int (zI 0), .int (zI tp), .int (zI bt), .int (zI lf), .int (zI rg), .int (zI dp)], cI cA md 80 cd] dX6_column_137 rfl (zbn (by omega)) (zbf (by omega)) (by exact Nat.le_of_ble_eq_true rfl) rfl ?_
                refine y_iload_n C 2 dX6_column_140 rfl ?_
                refine hret _ _ _ _ dX6_column_141 ⟨sp2_3, 0, rfl, ?_⟩
                show (CL cd ml sp wr low r_2 sp2_3 0) ∧ (0 ≤ sp2_3 ∧ sp2_3 ≤ ml) ∧ (0 = 0 ∨ 0 = 1) ∧ (0 ≤ r_2 ∧ r_2 ≤ 31)
                refine ⟨Or.inr ⟨by omega, by omega, by omega, by omega, Or.inr ⟨by omega, by omega, by omega, by omega⟩⟩, by omega, by omega, by omega⟩
              · refine y_iconst C dX6_column_132 ?_
                refine y_goto C 137 dX6_column_133 (by decide) ?_
                refine y_put C fp_X6_109 0 [cO y 6 [.ref ms, .ref ma, .ref mp, .int (zI np), .ref mk, .int (zI ik), .ref md, .int (zI ml), .ref me, .ref mo, .int (zI sp2_3), .int (zI 1), .int (zI tp), .int (zI bt), .int (zI lf), .int (zI rg), .int (zI dp)], cI cA md 80 cd] dX6_column_137 rfl (zbn (by omega)) (zbf (by omega)) (by exact Nat.le_of_ble_eq_true rfl) rfl ?_
                refine y_iload_n C 2 dX6_column_140 rfl ?_
                refine hret _ _ _ _ dX6_column_141 ⟨sp2_3, 1, rfl, ?_⟩
                show (CL cd ml sp wr low r_2 sp2_3 1) ∧ (0 ≤ sp2_3 ∧ sp2_3 ≤ ml) ∧ (1 = 0 ∨ 1 = 1) ∧ (0 ≤ r_2 ∧ r_2 ≤ 31)
                refine ⟨Or.inr ⟨by omega, by omega, by omega, by omega, Or.inr ⟨by omega, by omega, by omega, by omega⟩⟩, by omega, by omega, by omega⟩
            · refine y_iload_n C 2 dX6_column_98 rfl ?_
              refine y_if_le C 126 dX6_column_99 (by decide) ⟨by omega, by omega⟩ (fun c_51 => ?_) (fun c_51 => ?_)
              · refine y_aload_n C 3 dX6_column_126 rfl ?_
                refine y_iload_n C 2 dX6_column_127 rfl ?_
                refine y_iload_n C 4 dX6_column_128 rfl ?_
                refine y_icmp_ge C 136 dX6_column_129 (by decide) ⟨⟨by omega, by omega⟩, ⟨by omega, by omega⟩⟩ (fun c_52 => ?_) (fun c_52 => ?_)
                · refine y_iconst C dX6_column_136 ?_
                  refine y_put C fp_X6_109 0 [cO y 6 [.ref ms, .ref ma, .ref mp, .int (zI np), .ref mk, .int (zI ik), .ref md, .int (zI ml), .ref me, .ref mo, .int (zI sp2_3), .int (zI 0), .int (zI tp), .int (zI bt), .int (zI lf), .int (zI rg), .int (zI dp)], cI cA md 80 cd] dX6_column_137 rfl (zbn (by omega)) (zbf (by omega)) (by exact Nat.le_of_ble_eq_true rfl) rfl ?_
                  refine y_iload_n C 2 dX6_column_140 rfl ?_
                  refine hret _ _ _ _ dX6_column_141 ⟨sp2_3, 0, rfl, ?_⟩
                  show (CL cd ml sp wr low r_2 sp2_3 0) ∧ (0 ≤ sp2_3 ∧ sp2_3 ≤ ml) ∧ (0 = 0 ∨ 0 = 1) ∧ (0 ≤ r_2 ∧ r_2 ≤ 31)
                  refine ⟨Or.inr ⟨by omega, by omega, by omega, by omega, Or.inr ⟨by omega, by omega, by omega, by omega⟩⟩, by omega, by omega, by omega⟩
                · refine y_iconst C dX6_column_132 ?_
                  refine y_goto C 137 dX6_column_133 (by decide) ?_
                  refine y_put C fp_X6_109 0 [cO y 6 [.ref ms, .ref ma, .ref mp, .int (zI np), .ref mk, .int (zI ik), .ref md, .int (zI ml), .ref me, .ref mo, .int (zI sp2_3), .int (zI 1), .int (zI tp), .int (zI bt), .int (zI lf), .int (zI rg), .int (zI dp)], cI cA md 80 cd] dX6_column_137 rfl (zbn (by omega)) (zbf (by omega)) (by exact Nat.le_of_ble_eq_true rfl) rfl ?_
                  refine y_iload_n C 2 dX6_column_140 rfl ?_
                  refine hret _ _ _ _ dX6_column_141 ⟨sp2_3, 1, rfl, ?_⟩
                  show (CL cd ml sp wr low r_2 sp2_3 1) ∧ (0 ≤ sp2_3 ∧ sp2_3 ≤ ml) ∧ (1 = 0 ∨ 1 = 1) ∧ (0 ≤ r_2 ∧ r_2 ≤ 31)
                  refine ⟨Or.inr ⟨by omega, by omega, by omega, by omega, Or.inr ⟨by omega, by omega, by omega, by omega⟩⟩, by omega, by omega, by omega⟩
              · refine y_iload C 0 dX6_column_102 rfl ?_
                refine y_iload_n C 4 dX6_column_104 rfl ?_
                refine y_bipush C dX6_column_105 (by decide +kernel) ?_
                refine y_pcalls C (m_X6_in (l := l) (D := D) (cA := cA) (cB := cB) (vv := ((10 * r_2) + r_44) - 48) (lo := low) (hi := 31) (by first | assumption | exact ⟨by omega, by omega⟩) (by first | assumption | exact ⟨by omega, by omega⟩) (by first | assumption | exact ⟨by omega, by omega⟩)) lk_X6_31 [] [0, 1] [0, 1] ⟨rfl, rfl, by decide, by decide, by decide⟩ ⟨rfl, by decide⟩ dX6_column_107 rfl rfl ⟨by exact Nat.le_of_ble_eq_true rfl, by exact Nat.le_of_ble_eq_true rfl, rfl, rfl, by exact Nat.le_of_ble_eq_true rfl, by exact Nat.le_of_ble_eq_true rfl, by exact Nat.le_of_ble_eq_true rfl⟩ (fun r_54 h_53 => ?_)
                have hk2 := h_53
                refine y_if_eq C 126 dX6_column_110 (by decide) ⟨by omega, by omega⟩ (fun c_55 => ?_) (fun c_55 => ?_)
                · refine y_aload_n C 3 dX6_column_126 rfl ?_
                  refine y_iload_n C 2 dX6_column_127 rfl ?_
                  refine y_iload_n C 4 dX6_column_128 rfl ?_
                  refine y_icmp_ge C 136 dX6_column_129 (by decide) ⟨⟨by omega, by omega⟩, ⟨by omega, by omega⟩⟩ (fun c_56 => ?_) (fun c_56 => ?_)
                  · refine y_iconst C dX6_column_136 ?_
                    refine y_put C fp_X6_109 0 [cO y 6 [.ref ms, .ref ma, .ref mp, .int (zI np), .ref mk, .int (zI ik), .ref md, .int (zI ml), .ref me, .ref mo, .int (zI sp2_3), .int (zI 0), .int (zI tp), .int (zI bt), .int (zI lf), .int (zI rg), .int (zI dp)], cI cA md 80 cd] dX6_column_137 rfl (zbn (by omega)) (zbf (by omega)) (by exact Nat.le_of_ble_eq_true rfl) rfl ?_
                    refine y_iload_n C 2 dX6_column_140 rfl ?_
                    refine hret _ _ _ _ dX6_column_141 ⟨sp2_3, 0, rfl, ?_⟩
                    show (CL cd ml sp wr low r_2 sp2_3 0) ∧ (0 ≤ sp2_3 ∧ sp2_3 ≤ ml) ∧ (0 = 0 ∨ 0 = 1) ∧ (0 ≤ r_2 ∧ r_2 ≤ 31)
                    refine ⟨Or.inr ⟨by omega, by omega, by omega, by omega, Or.inr ⟨by omega, by omega, by omega, by omega⟩⟩, by omega, by omega, by omega⟩
                  · refine y_iconst C dX6_column_132 ?_
                    refine y_goto C 137 dX6_column_133 (by decide) ?_
                    refine y_put C fp_X6_109 0 [cO y 6 [.ref ms, .ref ma, .ref mp, .int (zI np), .ref mk, .int (zI ik), .ref md, .int (zI ml), .ref me, .ref mo, .int (zI sp2_3), .int (zI 1), .int (zI tp), .int (zI bt), .int (zI lf), .int (zI rg), .int (zI dp)], cI cA md 80 cd] dX6_column_137 rfl (zbn (by omega)) (zbf (by omega)) (by exact Nat.le_of_ble_eq_true rfl) rfl ?_
                    refine y_iload_n C 2 dX6_column_140 rfl ?_
                    refine hret _ _ _ _ dX6_column_141 ⟨sp2_3, 1, rfl, ?_⟩
                    show (CL cd ml sp wr low r_2 sp2_3 1) ∧ (0 ≤ sp2_3 ∧ sp2_3 ≤ ml) ∧ (1 = 0 ∨ 1 = 1) ∧ (0 ≤ r_2 ∧ r_2 ≤ 31)
                    refine ⟨Or.inr ⟨by omega, by omega, by omega, by omega, Or.inr ⟨by omega, by omega, by omega, by omega⟩⟩, by omega, by omega, by omega⟩
                · refine y_aload_n C 3 dX6_column_113 rfl ?_
                  refine y_dup C dX6_column_114 rfl ?_
                  refine y_get C fg_X6_106 0 dX6_column_115 rfl rfl ?_
                  refine y_iconst C dX6_column_118 ?_
                  refine y_iadd C dX6_column_119 ?_
                  refine y_put C fp_X6_106 0 [cO y 6 [.ref ms, .ref ma, .ref mp, .int (zI np), .ref mk, .int (zI ik), .ref md, .int (zI ml), .ref me, .ref mo, .int (zI (sp2_3 + 1)), .int (zI wr2_4), .int (zI tp), .int (zI bt), .int (zI lf), .int (zI rg), .int (zI dp)], cI cA md 80 cd] dX6_column_120 rfl rfl rfl (by exact Nat.le_of_ble_eq_true rfl) rfl ?_
                  refine y_iload C 0 dX6_column_123 rfl ?_
                  refine hret _ _ _ _ dX6_column_125 ⟨(sp2_3 + 1), wr2_4, rfl, ?_⟩
                  show (CL cd ml sp wr low (((10 * r_2) + r_44) - 48) (sp2_3 + 1) wr2_4) ∧ (0 ≤ (sp2_3 + 1) ∧ (sp2_3 + 1) ≤ ml) ∧ (wr2_4 = 0 ∨ wr2_4 = 1) ∧ (0 ≤ (((10 * r_2) + r_44) - 48) ∧ (((10 * r_2) + r_44) - 48) ≤ 31)
                  refine ⟨Or.inr ⟨by omega, by omega, by omega, by omega, Or.inl ⟨by omega, by omega, by omega, by omega, by omega⟩⟩, by omega, by omega, by omega⟩
          · refine y_aload_n C 2 dX6_column_53 rfl ?_
            refine y_dup C dX6_column_54 rfl ?_
            refine y_get C fg_X6_106 0 dX6_column_55 rfl rfl ?_
            refine y_iconst C dX6_column_58 ?_
            refine y_isub C dX6_column_59 ?_
            refine y_put C fp_X6_106 0 [cO y 6 [.ref ms, .ref ma, .ref mp, .int (zI np), .ref mk, .int (zI ik), .ref md, .int (zI ml), .ref me, .ref mo, .int (zI (sp2_3 - 1)), .int (zI wr2_4), .int (zI tp), .int (zI bt), .int (zI lf), .int (zI rg), .int (zI dp)], cI cA md 80 cd] dX6_column_60 rfl rfl rfl (by exact Nat.le_of_ble_eq_true rfl) rfl ?_
            refine y_aload_n C 2 dX6_column_63 rfl ?_
            refine y_iconst C dX6_column_64 ?_
            refine y_put C fp_X6_109 0 [cO y 6 [.ref ms, .ref ma, .ref mp, .int (zI np), .ref mk, .int (zI ik), .ref md, .int (zI ml), .ref me, .ref mo, .int (zI (sp2_3 - 1)), .int (zI 1), .int (zI tp), .int (zI bt), .int (zI lf), .int (zI rg), .int (zI dp)], cI cA md 80 cd] dX6_column_65 rfl (zbn (by omega)) (zbf (by omega)) (by exact Nat.le_of_ble_eq_true rfl) rfl ?_
            refine y_iconst C dX6_column_68 ?_
            refine hret _ _ _ _ dX6_column_69 ⟨(sp2_3 - 1), 1, rfl, ?_⟩
            show (CL cd ml sp wr low 0 (sp2_3 - 1) 1) ∧ (0 ≤ (sp2_3 - 1) ∧ (sp2_3 - 1) ≤ ml) ∧ (1 = 0 ∨ 1 = 1) ∧ (0 ≤ 0 ∧ 0 ≤ 31)
            refine ⟨Or.inl ⟨by omega, by omega, by omega⟩, by omega, by omega, by omega⟩
        · refine y_iconst C dX6_column_46 ?_
          refine hret _ _ _ _ dX6_column_47 ⟨sp2_3, wr2_4, rfl, ?_⟩
          show (CL cd ml sp wr low 0 sp2_3 wr2_4) ∧ (0 ≤ sp2_3 ∧ sp2_3 ≤ ml) ∧ (wr2_4 = 0 ∨ wr2_4 = 1) ∧ (0 ≤ 0 ∧ 0 ≤ 31)
          refine ⟨Or.inl ⟨by omega, by omega, by omega⟩, by omega, by omega, by omega⟩
    · refine y_iload_n C 0 dX6_column_17 rfl ?_
      refine y_goto C 38 dX6_column_18 (by decide) ?_
      refine y_istore_n C [(3, .int (zI r_2)), (2, .int (zI r_2)), (0, .ref y), (1, .int (zI low))] dX6_column_38 (by decide) rfl ?_
      refine y_aload_n C 2 dX6_column_39 rfl ?_
      refine y_get C fg_X6_109 0 dX6_column_40 rfl rfl ?_
      refine y_if_eq C 48 dX6_column_43 (by decide) ⟨by omega, by omega⟩ (fun c_57 => ?_) (fun c_57 => ?_)
      · have hgr : grt (nxt cd ml sp - 48) = r_2 := by unfold grt; (repeat' split) <;> omega
        refine y_iload_n C 0 dX6_column_48 rfl ?_
        refine y_iload_n C 3 dX6_column_49 rfl ?_
        refine y_icmp_ge C 70 dX6_column_50 (by decide) ⟨⟨by omega, by omega⟩, ⟨by omega, by omega⟩⟩ (fun c_58 => ?_) (fun c_58 => ?_)
        · have hnl2 := nxt_lt (cd := cd) (ml := ml) (sp := sp + 1)
          refine y_bipush C dX6_column_70 (by decide +kernel) ?_
          refine y_iload_n C 1 dX6_column_72 rfl ?_
          refine y_imul C dX6_column_73 ?_
          refine y_aload_n C 2 dX6_column_74 rfl ?_
          refine y_pcall C (m_X6_next (l := l) (D := D) (cA := cA) (cB := cB) (y := y) (ms := ms) (ma := ma) (mp := mp) (mk := mk) (md := md) (me := me) (mo := mo) (np := np) (ik := ik) (ml := ml) (sp := sp2_3) (wr := wr2_4) (tp := tp) (bt := bt) (lf := lf) (rg := rg) (dp := dp) (cd := cd) (by first | assumption | omega | exact ⟨by omega, by omega⟩) (by first | assumption | omega | exact ⟨by omega, by omega⟩) (by first | assumption | omega | exact ⟨by omega, by omega⟩)) lk_X6_113 [0, 1] [] [0, 1] ⟨rfl, rfl, by decide, by decide, by decide⟩ ⟨rfl, by decide⟩ rfl rfl dX6_column_75 rfl rfl ⟨by exact Nat.le_of_ble_eq_true rfl, by exact Nat.le_of_ble_eq_true rfl, rfl, rfl, by exact Nat.le_of_ble_eq_true rfl, by exact Nat.le_of_ble_eq_true rfl, by exact Nat.le_of_ble_eq_true rfl⟩ (fun r_60 h_59 => ?_)
          rw [show sp2_3 = sp + 1 from by omega] at h_59
          have hx1 := h_59
          refine y_iadd C dX6_column_78 ?_
          refine y_bipush C dX6_column_79 (by decide +kernel) ?_
          refine y_isub C dX6_column_81 ?_
          refine y_istore C [(4, .int (zI (((10 * r_2) + r_60) - 48))), (3, .int (zI r_2)), (2, .int (zI r_2)), (0, .ref y), (1, .int (zI low))] dX6_column_82 (by decide) rfl ?_
          refine y_aload_n C 3 dX6_column_84 rfl ?_
          refine y_pcall C (m_X6_next (l := l) (D := D) (cA := cA) (cB := cB) (y := y) (ms := ms) (ma := ma) (mp := mp) (mk := mk) (md := md) (me := me) (mo := mo) (np := np) (ik := ik) (ml := ml) (sp := sp2_3) (wr := wr2_4) (tp := tp) (bt := bt) (lf := lf) (rg := rg) (dp := dp) (cd := cd) (by first | assumption | omega | exact ⟨by omega, by omega⟩) (by first | assumption | omega | exact ⟨by omega, by omega⟩) (by first | assumption | omega | exact ⟨by omega, by omega⟩)) lk_X6_113 [0, 1] [] [0, 1] ⟨rfl, rfl, by decide, by decide, by decide⟩ ⟨rfl, by decide⟩ rfl rfl dX6_column_85 rfl rfl ⟨by exact Nat.le_of_ble_eq_true rfl, by exact Nat.le_of_ble_eq_true rfl, rfl, rfl, by exact Nat.le_of_ble_eq_true rfl, by exact Nat.le_of_ble_eq_true rfl, by exact Nat.le_of_ble_eq_true rfl⟩ (fun r_62 h_61 => ?_)
          rw [show sp2_3 = sp + 1 from by omega] at h_61
          have hx2 := h_61
          refine y_bipush C dX6_column_88 (by decide +kernel) ?_
          refine y_bipush C dX6_column_90 (by decide +kernel) ?_
          refine y_pcalls C (m_X6_in (l := l) (D := D) (cA := cA) (cB := cB) (vv := r_62) (lo := 48) (hi := 57) (by first | assumption | exact ⟨by omega, by omega⟩) (by first | assumption | exact ⟨by omega, by omega⟩) (by first | assumption | exact ⟨by omega, by omega⟩)) lk_X6_31 [] [0, 1] [0, 1] ⟨rfl, rfl, by decide, by decide, by decide⟩ ⟨rfl, by decide⟩ dX6_column_92 rfl rfl ⟨by exact Nat.le_of_ble_eq_true rfl, by exact Nat.le_of_ble_eq_true rfl, rfl, rfl, by exact Nat.le_of_ble_eq_true rfl, by exact Nat.le_of_ble_eq_true rfl, by exact Nat.le_of_ble_eq_true rfl⟩ (fun r_64 h_63 => ?_)
          have hk1 := h_63
          refine y_if_eq C 126 dX6_column_95 (by decide) ⟨by omega, by omega⟩ (fun c_65 => ?_) (fun c_65 => ?_)
          · refine y_aload_n C 3 dX6_column_126 rfl ?_
            refine y_iload_n C 2 dX6_column_127 rfl ?_
            refine y_iload_n C 4 dX6_column_128 rfl ?_
            refine y_icmp_ge C 136 dX6_column_129 (by decide) ⟨⟨by omega, by omega⟩, ⟨by omega, by omega⟩⟩ (fun c_66 => ?_) (fun c_66 => ?_)
            · refine y_iconst C dX6_column_136 ?_
              refine y_put C fp_X6_109 0 [cO y 6 [.ref ms, .ref ma, .ref mp, .int (zI np), .ref mk, .int (zI ik), .ref md, .int (zI ml), .ref me, .ref mo, .int (zI sp2_3), .int (zI 0), .int (zI tp), .int (zI bt), .int (zI lf), .int (zI rg), .int (zI dp)], cI cA md 80 cd] dX6_column_137 rfl (zbn (by omega)) (zbf (by omega)) (by exact Nat.le_of_ble_eq_true rfl) rfl ?_
              refine y_iload_n C 2 dX6_column_140 rfl ?_
              refine hret _ _ _ _ dX6_column_141 ⟨sp2_3, 0, rfl, ?_⟩
              show (CL cd ml sp wr low r_2 sp2_3 0) ∧ (0 ≤ sp2_3 ∧ sp2_3 ≤ ml) ∧ (0 = 0 ∨ 0 = 1) ∧ (0 ≤ r_2 ∧ r_2 ≤ 31)
              refine ⟨Or.inr ⟨by omega, by omega, by omega, by omega, Or.inr ⟨by omega, by omega, by omega, by omega⟩⟩, by omega, by omega, by omega⟩
            · refine y_iconst C dX6_column_132 ?_
              refine y_goto C 137 dX6_column_133 (by decide) ?_
              refine y_put C fp_X6_109 0 [cO y 6 [.ref ms, .ref ma, .ref mp, .int (zI np), .ref mk, .int (zI ik), .ref md, .int (zI ml), .ref me, .ref mo, .int (zI sp2_3), .int (zI 1), .int (zI tp), .int (zI bt), .int (zI lf), .int (zI rg), .int (zI dp)], cI cA md 80 cd] dX6_column_137 rfl (zbn (by omega)) (zbf (by omega)) (by exact Nat.le_of_ble_eq_true rfl) rfl ?_
              refine y_iload_n C 2 dX6_column_140 rfl ?_
              refine hret _ _ _ _ dX6_column_141 ⟨sp2_3, 1, rfl, ?_⟩
              show (CL cd ml sp wr low r_2 sp2_3 1) ∧ (0 ≤ sp2_3 ∧ sp2_3 ≤ ml) ∧ (1 = 0 ∨ 1 = 1) ∧ (0 ≤ r_2 ∧ r_2 ≤ 31)
              refine ⟨Or.inr ⟨by omega, by omega, by omega, by omega, Or.inr ⟨by omega, by omega, by omega, by omega⟩⟩, by omega, by omega, by omega⟩
          · refine y_iload_n C 2 dX6_column_98 rfl ?_
            refine y_if_le C 126 dX6_column_99 (by decide) ⟨by omega, by omega⟩ (fun c_67 => ?_) (fun c_67 => ?_)
            · refine y_aload_n C 3 dX6_column_126 rfl ?_
              refine y_iload_n C 2 dX6_column_127 rfl ?_
              refine y_iload_n C 4 dX6_column_128 rfl ?_
              refine y_icmp_ge C 136 dX6_column_129 (by decide) ⟨⟨by omega, by omega⟩, ⟨by omega, by omega⟩⟩ (fun c_68 => ?_) (fun c_68 => ?_)
              · refine y_iconst C dX6_column_136 ?_
                refine y_put C fp_X6_109 0 [cO y 6 [.ref ms, .ref ma, .ref mp, .int (zI np), .ref mk, .int (zI ik), .ref md, .int (zI ml), .ref me, .ref mo, .int (zI sp2_3), .int (zI 0), .int (zI tp), .int (zI bt), .int (zI lf), .int (zI rg), .int (zI dp)], cI cA md 80 cd] dX6_column_137 rfl (zbn (by omega)) (zbf (by omega)) (by exact Nat.le_of_ble_eq_true rfl) rfl ?_
                refine y_iload_n C 2 dX6_column_140 rfl ?_
                refine hret _ _ _ _ dX6_column_141 ⟨sp2_3, 0, rfl, ?_⟩
                show (CL cd ml sp wr low r_2 sp2_3 0) ∧ (0 ≤ sp2_3 ∧ sp2_3 ≤ ml) ∧ (0 = 0 ∨ 0 = 1) ∧ (0 ≤ r_2 ∧ r_2 ≤ 31)
                refine ⟨Or.inr ⟨by omega, by omega, by omega, by omega, Or.inr ⟨by omega, by omega, by omega, by omega⟩⟩, by omega, by omega, by omega⟩
              · refine y_iconst C dX6_column_132 ?_
                refine y_goto C 137 dX6_column_133 (by decide) ?_
                refine y_put C fp_X6_109 0 [cO y 6 [.ref ms, .ref ma, .ref mp, .int (zI np), .ref mk, .int (zI ik), .ref md, .int (zI ml), .ref me, .ref mo, .int (zI sp2_3), .int (zI 1), .int (zI tp), .int (zI bt), .int (zI lf), .int (zI rg), .int (zI dp)], cI cA md 80 cd] dX6_column_137 rfl (zbn (by omega)) (zbf (by omega)) (by exact Nat.le_of_ble_eq_true rfl) rfl ?_
                refine y_iload_n C 2 dX6_column_140 rfl ?_
                refine hret _ _ _ _ dX6_column_141 ⟨sp2_3, 1, rfl, ?_⟩
                show (CL cd ml sp wr low r_2 sp2_3 1) ∧ (0 ≤ sp2_3 ∧ sp2_3 ≤ ml) ∧ (1 = 0 ∨ 1 = 1) ∧ (0 ≤ r_2 ∧ r_2 ≤ 31)
                refine ⟨Or.inr ⟨by omega, by omega, by omega, by omega, Or.inr ⟨by omega, by omega, by omega, by omega⟩⟩, by omega, by omega, by omega⟩
            · refine y_iload C 0 dX6_column_102 rfl ?_
              refine y_iload_n C 4 dX6_column_104 rfl ?_
              refine y_bipush C dX6_column_105 (by decide +kernel) ?_
              refine y_pcalls C (m_X6_in (l := l) (D := D) (cA := cA) (cB := cB) (vv := ((10 * r_2) + r_60) - 48) (lo := low) (hi := 31) (by first | assumption | exact ⟨by omega, by omega⟩) (by first | assumption | exact ⟨by omega, by omega⟩) (by first | assumption | exact ⟨by omega, by omega⟩)) lk_X6_31 [] [0, 1] [0, 1] ⟨rfl, rfl, by decide, by decide, by decide⟩ ⟨rfl, by decide⟩ dX6_column_107 rfl rfl ⟨by exact Nat.le_of_ble_eq_true rfl, by exact Nat.le_of_ble_eq_true rfl, rfl, rfl, by exact Nat.le_of_ble_eq_true rfl, by exact Nat.le_of_ble_eq_true rfl, by exact Nat.le_of_ble_eq_true rfl⟩ (fun r_70 h_69 => ?_)
              have hk2 := h_69
              refine y_if_eq C 126 dX6_column_110 (by decide) ⟨by omega, by omega⟩ (fun c_71 => ?_) (fun c_71 => ?_)
              · refine y_aload_n C 3 dX6_column_126 rfl ?_
                refine y_iload_n C 2 dX6_column_127 rfl ?_
                refine y_iload_n C 4 dX6_column_128 rfl ?_
                refine y_icmp_ge C 136 dX6_column_129 (by decide) ⟨⟨by omega, by omega⟩, ⟨by omega, by omega⟩⟩ (fun c_72 => ?_) (fun c_72 => ?_)
                · refine y_iconst C dX6_column_136 ?_
                  refine y_put C fp_X6_109 0 [cO y 6 [.ref ms, .ref ma, .ref mp, .int (zI np), .ref mk, .int (zI ik), .ref md, .int (zI ml), .ref me, .ref mo, .int (zI sp2_3), .int (zI 0), .int (zI tp), .int (zI bt), .int (zI lf), .int (zI rg), .int (zI dp)], cI cA md 80 cd] dX6_column_137 rfl (zbn (by omega)) (zbf (by omega)) (by exact Nat.le_of_ble_eq_true rfl) rfl ?_
                  refine y_iload_n C 2 dX6_column_140 rfl ?_
                  refine hret _ _ _ _ dX6_column_141 ⟨sp2_3, 0, rfl, ?_⟩
                  show (CL cd ml sp wr low r_2 sp2_3 0) ∧ (0 ≤ sp2_3 ∧ sp2_3 ≤ ml) ∧ (0 = 0 ∨ 0 = 1) ∧ (0 ≤ r_2 ∧ r_2 ≤ 31)
                  refine ⟨Or.inr ⟨by omega, by omega, by omega, by omega, Or.inr ⟨by omega, by omega, by omega, by omega⟩⟩, by omega, by omega, by omega⟩
                · refine y_iconst C dX6_column_132 ?_
                  refine y_goto C 137 dX6_column_133 (by decide) ?_
                  refine y_put C fp_X6_109 0 [cO y 6 [.ref ms, .ref ma, .ref mp, .int (zI np), .ref mk, .int (zI ik), .ref md, .int (zI ml), .ref me, .ref mo, .int (zI sp2_3), .int (zI 1), .int (zI tp), .int (zI bt), .int (zI lf), .int (zI rg), .int (zI dp)], cI cA md 80 cd] dX6_column_137 rfl (zbn (by omega)) (zbf (by omega)) (by exact Nat.le_of_ble_eq_true rfl) rfl ?_
                  refine y_iload_n C 2 dX6_column_140 rfl ?_
                  refine hret _ _ _ _ dX6_column_141 ⟨sp2_3, 1, rfl, ?_⟩
                  show (CL cd ml sp wr low r_2 sp2_3 1) ∧ (0 ≤ sp2_3 ∧ sp2_3 ≤ ml) ∧ (1 = 0 ∨ 1 = 1) ∧ (0 ≤ r_2 ∧ r_2 ≤ 31)
                  refine ⟨Or.inr ⟨by omega, by omega, by omega, by omega, Or.inr ⟨by omega, by omega, by omega, by omega⟩⟩, by omega, by omega, by omega⟩
              · refine y_aload_n C 3 dX6_column_113 rfl ?_
                refine y_dup C dX6_column_114 rfl ?_
                refine y_get C fg_X6_106 0 dX6_column_115 rfl rfl ?_
                refine y_iconst C dX6_column_118 ?_
                refine y_iadd C dX6_column_119 ?_
                refine y_put C fp_X6_106 0 [cO y 6 [.ref ms, .ref ma, .ref mp, .int (zI np), .ref mk, .int (zI ik), .ref md, .int (zI ml), .ref me, .ref mo, .int (zI (sp2_3 + 1)), .int (zI wr2_4), .int (zI tp), .int (zI bt), .int (zI lf), .int (zI rg), .int (zI dp)], cI cA md 80 cd] dX6_column_120 rfl rfl rfl (by exact Nat.le_of_ble_eq_true rfl) rfl ?_
                refine y_iload C 0 dX6_column_123 rfl ?_
                refine hret _ _ _ _ dX6_column_125 ⟨(sp2_3 + 1), wr2_4, rfl, ?_⟩
                show (CL cd ml sp wr low (((10 * r_2) + r_60) - 48) (sp2_3 + 1) wr2_4) ∧ (0 ≤ (sp2_3 + 1) ∧ (sp2_3 + 1) ≤ ml) ∧ (wr2_4 = 0 ∨ wr2_4 = 1) ∧ (0 ≤ (((10 * r_2) + r_60) - 48) ∧ (((10 * r_2) + r_60) - 48) ≤ 31)
                refine ⟨Or.inr ⟨by omega, by omega, by omega, by omega, Or.inl ⟨by omega, by omega, by omega, by omega, by omega⟩⟩, by omega, by omega, by omega⟩
        · refine y_aload_n C 2 dX6_column_53 rfl ?_
          refine y_dup C dX6_column_54 rfl ?_
          refine y_get C fg_X6_106 0 dX6_column_55 rfl rfl ?_
          refine y_iconst C dX6_column_58 ?_
          refine y_isub C dX6_column_59 ?_
          refine y_put C fp_X6_106 0 [cO y 6 [.ref ms, .ref ma, .ref mp, .int (zI np), .ref mk, .int (zI ik), .ref md, .int (zI ml), .ref me, .ref mo, .int (zI (sp2_3 - 1)), .int (zI wr2_4), .int (zI tp), .int (zI bt), .int (zI lf), .int (zI rg), .int (zI dp)], cI cA md 80 cd] dX6_column_60 rfl rfl rfl (by exact Nat.le_of_ble_eq_true rfl) rfl ?_
          refine y_aload_n C 2 dX6_column_63 rfl ?_
          refine y_iconst C dX6_column_64 ?_
          refine y_put C fp_X6_109 0 [cO y 6 [.ref ms, .ref ma, .ref mp, .int (zI np), .ref mk, .int (zI ik), .ref md, .int (zI ml), .ref me, .ref mo, .int (zI (sp2_3 - 1)), .int (zI 1), .int (zI tp), .int (zI bt), .int (zI lf), .int (zI rg), .int (zI dp)], cI cA md 80 cd] dX6_column_65 rfl (zbn (by omega)) (zbf (by omega)) (by exact Nat.le_of_ble_eq_true rfl) rfl ?_
          refine y_iconst C dX6_column_68 ?_
          refine hret _ _ _ _ dX6_column_69 ⟨(sp2_3 - 1), 1, rfl, ?_⟩
          show (CL cd ml sp wr low 0 (sp2_3 - 1) 1) ∧ (0 ≤ (sp2_3 - 1) ∧ (sp2_3 - 1) ≤ ml) ∧ (1 = 0 ∨ 1 = 1) ∧ (0 ≤ 0 ∧ 0 ≤ 31)
          refine ⟨Or.inl ⟨by omega, by omega, by omega⟩, by omega, by omega, by omega⟩
      · refine y_iconst C dX6_column_46 ?_
        refine hret _ _ _ _ dX6_column_47 ⟨sp2_3, wr2_4, rfl, ?_⟩
        show (CL cd ml sp wr low 0 sp2_3 wr2_4) ∧ (0 ≤ sp2_3 ∧ sp2_3 ≤ ml) ∧ (wr2_4 = 0 ∨ wr2_4 = 1) ∧ (0 ≤ 0 ∧ 0 ≤ 31)
        refine ⟨Or.inl ⟨by omega, by omega, by omega⟩, by omega, by omega, by omega⟩

set_option maxHeartbeats 4000000 in
set_option maxRecDepth 100000 in
theorem m_X6_shape {l : Launch} {D : va_G} {cA cB : ClassId} {y ms ma mp mk md me mo : Nat} {np ik ml sp wr tp bt lf rg dp : Int} {cd : Int → Int} {s0 z1 z2 z3 z4 z5 : Int} (hml : 0 ≤ ml ∧ ml ≤ 80) (hsp : 0 ≤ sp ∧ sp ≤ ml) (hcd : ∀ k : Int, 0 ≤ k → k < 80 → 0 ≤ cd k ∧ cd k ≤ 126) (hwr : wr = 0 ∨ wr = 1) (hs0 : 0 ≤ s0) (hmp : MP cd ml s0 sp wr z1 z2 z3 z4 z5 0) : MV l yX6_shape cX6_shape 1 { frames := 3, cells := 0, slots := 0, locals := 69 } D (zT cA cB) [.ref y] [cO y 6 [.ref ms, .ref ma, .ref mp, .int (zI np), .ref mk, .int (zI ik), .ref md, .int (zI ml), .ref me, .ref mo, .int (zI sp), .int (zI wr), .int (zI tp), .int (zI bt), .int (zI lf), .int (zI rg), .int (zI dp)], cI cA md 80 cd] (fun w => ∃ (sp2 : Int), ∃ (wr2 : Int), ∃ (tp2 : Int), ∃ (bt2 : Int), ∃ (lf2 : Int), ∃ (rg2 : Int), ∃ (dp2 : Int), w = [cO y 6 [.ref ms, .ref ma, .ref mp, .int (zI np), .ref mk, .int (zI ik), .ref md, .int (zI ml), .ref me, .ref mo, .int (zI sp2), .int (zI wr2), .int (zI tp2), .int (zI bt2), .int (zI lf2), .int (zI rg2), .int (zI dp2)], cI cA md 80 cd] ∧ (MQz cd ml s0 sp2 wr2 tp2 bt2 lf2 rg2 dp2) ∧ (0 ≤ sp2 ∧ sp2 ≤ ml) ∧ (wr2 = 0 ∨ wr2 = 1) ∧ (wr2 = 0 → (0 ≤ tp2 ∧ tp2 ≤ bt2 ∧ bt2 ≤ 7) ∧ (0 ≤ lf2 ∧ lf2 ≤ rg2 ∧ rg2 ≤ 31) ∧ 0 ≤ dp2 ∧ dp2 ≤ 4)) := by
  refine MV.of RX6 ⟨rfl, by decide +kernel⟩ (Nat.le_of_ble_eq_true rfl) ?_
  intro K C hret
  change K 0 0 _ [(0, .ref y)] 0 []
  refine y_aload_n C 0 dX6_shape_0 rfl ?_
  refine y_aload_n C 0 dX6_shape_1 rfl ?_
  refine y_iconst C dX6_shape_2 ?_
  refine y_bipush C dX6_shape_3 (by decide +kernel) ?_
  refine y_mcalli C (m_X6_digit (l := l) (D := D) (cA := cA) (cB := cB) (y := y) (ms := ms) (ma := ma) (mp := mp) (mk := mk) (md := md) (me := me) (mo := mo) (np := np) (ik := ik) (ml := ml) (sp := sp) (wr := wr) (tp := tp) (bt := bt) (lf := lf) (rg := rg) (dp := dp) (cd := cd) (lo := 0) (hi := 7) (by first | assumption | omega | exact ⟨by omega, by omega⟩) (by first | assumption | omega | exact ⟨by omega, by omega⟩) (by first | assumption | omega | exact ⟨by omega, by omega⟩) (by first | assumption | omega | exact ⟨by omega, by omega⟩) (by first | assumption | omega | exact ⟨by omega, by omega⟩) (by first | assumption | omega | exact ⟨by omega, by omega⟩)) lk_X6_117 [0, 1] [] ⟨rfl, rfl, by decide, by decide, by decide⟩ (jb := 0) rfl rfl dX6_shape_5 rfl rfl ⟨by exact Nat.le_of_ble_eq_true rfl, by exact Nat.le_of_ble_eq_true rfl, rfl, rfl, by exact Nat.le_of_ble_eq_true rfl, by exact Nat.le_of_ble_eq_true rfl, by exact Nat.le_of_ble_eq_true rfl⟩ (fun r_2 w_5 h_1 => ?_)
  obtain ⟨sp2_3, wr2_4, rfl, h_1⟩ := h_1
  refine ⟨[0, 1], [cO y 6 [.ref ms, .ref ma, .ref mp, .int (zI np), .ref mk, .int (zI ik), .ref md, .int (zI ml), .ref me, .ref mo, .int (zI sp2_3), .int (zI wr2_4), .int (zI tp), .int (zI bt), .int (zI lf), .int (zI rg), .int (zI dp)], cI cA md 80 cd], ⟨rfl, by decide⟩, ?_⟩
  have m1 := MP_top hs0 hmp (h_1).1
  refine y_put C fp_X6_120 0 [cO y 6 [.ref ms, .ref ma, .ref mp, .int (zI np), .ref mk, .int (zI ik), .ref md, .int (zI ml), .ref me, .ref mo, .int (zI sp2_3), .int (zI wr2_4), .int (zI r_2), .int (zI bt), .int (zI lf), .int (zI rg), .int (zI dp)], cI cA md 80 cd] dX6_shape_8 rfl rfl rfl (by exact Nat.le_of_ble_eq_true rfl) rfl ?_
  refine y_aload_n C 0 dX6_shape_11 rfl ?_
  refine y_aload_n C 0 dX6_shape_12 rfl ?_
  refine y_get C fg_X6_120 0 dX6_shape_13 rfl rfl ?_
  refine y_put C fp_X6_123 0 [cO y 6 [.ref ms, .ref ma, .ref mp, .int (zI np), .ref mk, .int (zI ik), .ref md, .int (zI ml), .ref me, .ref mo, .int (zI sp2_3), .int (zI wr2_4), .int (zI r_2), .int (zI r_2), .int (zI lf), .int (zI rg), .int (zI dp)], cI cA md 80 cd] dX6_shape_16 rfl rfl rfl (by exact Nat.le_of_ble_eq_true rfl) rfl ?_
  refine y_aload_n C 0 dX6_shape_19 rfl ?_
  refine y_bipush C dX6_shape_20 (by decide +kernel) ?_
  refine y_pcall C (m_X6_isNext (l := l) (D := D) (cA := cA) (cB := cB) (y := y) (ms := ms) (ma := ma) (mp := mp) (mk := mk) (md := md) (me := me) (mo := mo) (np := np) (ik := ik) (ml := ml) (sp := sp2_3) (wr := wr2_4) (tp := r_2) (bt := r_2) (lf := lf) (rg := rg) (dp := dp) (cd := cd) (sg := 45) (by first | assumption | omega | exact ⟨by omega, by omega⟩) (by first | assumption | omega | exact ⟨by omega, by omega⟩) (by first | assumption | omega | exact ⟨by omega, by omega⟩) (by first | assumption | omega | exact ⟨by omega, by omega⟩) (by first | assumption | omega | exact ⟨by omega, by omega⟩)) lk_X6_126 [0, 1] [] [0, 1] ⟨rfl, rfl, by decide, by decide, by decide⟩ ⟨rfl, by decide⟩ rfl rfl dX6_shape_22 rfl rfl ⟨by exact Nat.le_of_ble_eq_true rfl, by exact Nat.le_of_ble_eq_true rfl, rfl, rfl, by exact Nat.le_of_ble_eq_true rfl, by exact Nat.le_of_ble_eq_true rfl, by exact Nat.le_of_ble_eq_true rfl⟩ (fun r_7 h_6 => ?_)
  have n1 := h_6
  refine y_if_eq C 52 dX6_shape_25 (by decide) ⟨by omega, by omega⟩ (fun c_8 => ?_) (fun c_8 => ?_)
  · refine y_aload_n C 0 dX6_shape_52 rfl ?_
    refine y_bipush C dX6_shape_53 (by decide +kernel) ?_
    refine y_mcallv C (m_X6_wants (l := l) (D := D) (cA := cA) (cB := cB) (y := y) (ms := ms) (ma := ma) (mp := mp) (mk := mk) (md := md) (me := me) (mo := mo) (np := np) (ik := ik) (ml := ml) (sp := sp2_3) (wr := wr2_4) (tp := r_2) (bt := r_2) (lf := lf) (rg := rg) (dp := dp) (cd := cd) (sg := 44) (by first | assumption | omega | exact ⟨by omega, by omega⟩) (by first | assumption | omega | exact ⟨by omega, by omega⟩) (by first | assumption | omega | exact ⟨by omega, by omega⟩) (by first | assumption | omega | exact ⟨by omega, by omega⟩) (by first | assumption | omega | exact ⟨by omega, by omega⟩)) lk_X6_129 [0, 1] [] ⟨rfl, rfl, by decide, by decide, by decide⟩ (jb := 0) rfl rfl dX6_shape_55 rfl rfl ⟨by exact Nat.le_of_ble_eq_true rfl, by exact Nat.le_of_ble_eq_true rfl, rfl, rfl, by exact Nat.le_of_ble_eq_true rfl, by exact Nat.le_of_ble_eq_true rfl, by exact Nat.le_of_ble_eq_true rfl⟩ (fun w_13 h_9 => ?_)
    obtain ⟨sp2_11, wr2_12, rfl, h_9⟩ := h_9
    refine ⟨[0, 1], [cO y 6 [.ref ms, .ref ma, .ref mp, .int (zI np), .ref mk, .int (zI ik), .ref md, .int (zI ml), .ref me, .ref mo, .int (zI sp2_11), .int (zI wr2_12), .int (zI r_2), .int (zI r_2), .int (zI lf), .int (zI rg), .int (zI dp)], cI cA md 80 cd], ⟨rfl, by decide⟩, ?_⟩
    first | have m4 := MP_comma3 hs0 m3 (h_9).1 | have m4 := MP_comma1 hs0 m1 (by rcases n1 with z | z; exfalso; omega; exact z.2) (h_9).1
    refine y_aload_n C 0 dX6_shape_58 rfl ?_
    refine y_aload_n C 0 dX6_shape_59 rfl ?_
    refine y_iconst C dX6_shape_60 ?_
    refine y_mcalli C (m_X6_column (l := l) (D := D) (cA := cA) (cB := cB) (y := y) (ms := ms) (ma := ma) (mp := mp) (mk := mk) (md := md) (me := me) (mo := mo) (np := np) (ik := ik) (ml := ml) (sp := sp2_11) (wr := wr2_12) (tp := r_2) (bt := r_2) (lf := lf) (rg := rg) (dp := dp) (cd := cd) (low := 0) (by first | assumption | omega | exact ⟨by omega, by omega⟩) (by first | assumption | omega | exact ⟨by omega, by omega⟩) (by first | assumption | omega | exact ⟨by omega, by omega⟩) (by first | assumption | omega | exact ⟨by omega, by omega⟩) (by first | assumption | omega | exact ⟨by omega, by omega⟩)) lk_X6_132 [0, 1] [] ⟨rfl, rfl, by decide, by decide, by decide⟩ (jb := 0) rfl rfl dX6_shape_61 rfl rfl ⟨by exact Nat.le_of_ble_eq_true rfl, by exact Nat.le_of_ble_eq_true rfl, rfl, rfl, by exact Nat.le_of_ble_eq_true rfl, by exact Nat.le_of_ble_eq_true rfl, by exact Nat.le_of_ble_eq_true rfl⟩ (fun r_15 w_18 h_14 => ?_)
    obtain ⟨sp2_16, wr2_17, rfl, h_14⟩ := h_14
    refine ⟨[0, 1], [cO y 6 [.ref ms, .ref ma, .ref mp, .int (zI np), .ref mk, .int (zI ik), .ref md, .int (zI ml), .ref me, .ref mo, .int (zI sp2_16), .int (zI wr2_17), .int (zI r_2), .int (zI r_2), .int (zI lf), .int (zI rg), .int (zI dp)], cI cA md 80 cd], ⟨rfl, by decide⟩, ?_⟩
    obtain ⟨m5, nd5⟩ := MP_left hs0 m4 (h_14).1
    refine y_put C fp_X6_135 0 [cO y 6 [.ref ms, .ref ma, .ref mp, .int (zI np), .ref mk, .int (zI ik), .ref md, .int (zI ml), .ref me, .ref mo, .int (zI sp2_16), .int (zI wr2_17), .int (zI r_2), .int (zI r_2), .int (zI r_15), .int (zI rg), .int (zI dp)], cI cA md 80 cd] dX6_shape_64 rfl rfl rfl (by exact Nat.le_of_ble_eq_true rfl) rfl ?_
    refine y_aload_n C 0 dX6_shape_67 rfl ?_
    refine y_aload_n C 0 dX6_shape_68 rfl ?_
    refine y_get C fg_X6_135 0 dX6_shape_69 rfl rfl ?_
    refine y_put C fp_X6_138 0 [cO y 6 [.ref ms, .ref ma, .ref mp, .int (zI np), .ref mk, .int (zI ik), .ref md, .int (zI ml), .ref me, .ref mo, .int (zI sp2_16), .int (zI wr2_17), .int (zI r_2), .int (zI r_2), .int (zI r_15), .int (zI r_15), .int (zI dp)], cI cA md 80 cd] dX6_shape_72 rfl rfl rfl (by exact Nat.le_of_ble_eq_true rfl) rfl ?_
    refine y_aload_n C 0 dX6_shape_75 rfl ?_
    refine y_bipush C dX6_shape_76 (by decide +kernel) ?_
    refine y_pcall C (m_X6_isNext (l := l) (D := D) (cA := cA) (cB := cB) (y := y) (ms := ms) (ma := ma) (mp := mp) (mk := mk) (md := md) (me := me) (mo := mo) (np := np) (ik := ik) (ml := ml) (sp := sp2_16) (wr := wr2_17) (tp := r_2) (bt := r_2) (lf := r_15) (rg := r_15) (dp := dp) (cd := cd) (sg := 45) (by first | assumption | omega | exact ⟨by omega, by omega⟩) (by first | assumption | omega | exact ⟨by omega, by omega⟩) (by first | assumption | omega | exact ⟨by omega, by omega⟩) (by first | assumption | omega | exact ⟨by omega, by omega⟩) (by first | assumption | omega | exact ⟨by omega, by omega⟩)) lk_X6_126 [0, 1] [] [0, 1] ⟨rfl, rfl, by decide, by decide, by decide⟩ ⟨rfl, by decide⟩ rfl rfl dX6_shape_78 rfl rfl ⟨by exact Nat.le_of_ble_eq_true rfl, by exact Nat.le_of_ble_eq_true rfl, rfl, rfl, by exact Nat.le_of_ble_eq_true rfl, by exact Nat.le_of_ble_eq_true rfl, by exact Nat.le_of_ble_eq_true rfl⟩ (fun r_20 h_19 => ?_)
    have n2 := h_19
    refine y_if_eq C 106 dX6_shape_81 (by decide) ⟨by omega, by omega⟩ (fun c_21 => ?_) (fun c_21 => ?_)
    · refine y_aload_n C 0 dX6_shape_106 rfl ?_
      refine y_bipush C dX6_shape_107 (by decide +kernel) ?_
      refine y_mcallv C (m_X6_wants (l := l) (D := D) (cA := cA) (cB := cB) (y := y) (ms := ms) (ma := ma) (mp := mp) (mk := mk) (md := md) (me := me) (mo := mo) (np := np) (ik := ik) (ml := ml) (sp := sp2_16) (wr := wr2_17) (tp := r_2) (bt := r_2) (lf := r_15) (rg := r_15) (dp := dp) (cd := cd) (sg := 58) (by first | assumption | omega | exact ⟨by omega, by omega⟩) (by first | assumption | omega | exact ⟨by omega, by omega⟩) (by first | assumption | omega | exact ⟨by omega, by omega⟩) (by first | assumption | omega | exact ⟨by omega, by omega⟩) (by first | assumption | omega | exact ⟨by omega, by omega⟩)) lk_X6_129 [0, 1] [] ⟨rfl, rfl, by decide, by decide, by decide⟩ (jb := 0) rfl rfl dX6_shape_109 rfl rfl ⟨by exact Nat.le_of_ble_eq_true rfl, by exact Nat.le_of_ble_eq_true rfl, rfl, rfl, by exact Nat.le_of_ble_eq_true rfl, by exact Nat.le_of_ble_eq_true rfl, by exact Nat.le_of_ble_eq_true rfl⟩ (fun w_26 h_22 => ?_)
      obtain ⟨sp2_24, wr2_25, rfl, h_22⟩ := h_22
      refine ⟨[0, 1], [cO y 6 [.ref ms, .ref ma, .ref mp, .int (zI np), .ref mk, .int (zI ik), .ref md, .int (zI ml), .ref me, .ref mo, .int (zI sp2_24), .int (zI wr2_25), .int (zI r_2), .int (zI r_2), .int (zI r_15), .int (zI r_15), .int (zI dp)], cI cA md 80 cd], ⟨rfl, by decide⟩, ?_⟩
      first | have m8 := MP_colon7 hs0 m7 (fun z => (nd7 z).1) (h_22).1 | have m8 := MP_colon5 hs0 m5 (fun z => (nd5 z).1) (by rcases n2 with z | z; exfalso; omega; exact z.2) (h_22).1
      refine y_aload_n C 0 dX6_shape_112 rfl ?_
      refine y_aload_n C 0 dX6_shape_113 rfl ?_
      refine y_iconst C dX6_shape_114 ?_
      refine y_iconst C dX6_shape_115 ?_
      refine y_mcalli C (m_X6_digit (l := l) (D := D) (cA := cA) (cB := cB) (y := y) (ms := ms) (ma := ma) (mp := mp) (mk := mk) (md := md) (me := me) (mo := mo) (np := np) (ik := ik) (ml := ml) (sp := sp2_24) (wr := wr2_25) (tp := r_2) (bt := r_2) (lf := r_15) (rg := r_15) (dp := dp) (cd := cd) (lo := 0) (hi := 4) (by first | assumption | omega | exact ⟨by omega, by omega⟩) (by first | assumption | omega | exact ⟨by omega, by omega⟩) (by first | assumption | omega | exact ⟨by omega, by omega⟩) (by first | assumption | omega | exact ⟨by omega, by omega⟩) (by first | assumption | omega | exact ⟨by omega, by omega⟩) (by first | assumption | omega | exact ⟨by omega, by omega⟩)) lk_X6_117 [0, 1] [] ⟨rfl, rfl, by decide, by decide, by decide⟩ (jb := 0) rfl rfl dX6_shape_116 rfl rfl ⟨by exact Nat.le_of_ble_eq_true rfl, by exact Nat.le_of_ble_eq_true rfl, rfl, rfl, by exact Nat.le_of_ble_eq_true rfl, by exact Nat.le_of_ble_eq_true rfl, by exact Nat.le_of_ble_eq_true rfl⟩ (fun r_28 w_31 h_27 => ?_)
      obtain ⟨sp2_29, wr2_30, rfl, h_27⟩ := h_27
      refine ⟨[0, 1], [cO y 6 [.ref ms, .ref ma, .ref mp, .int (zI np), .ref mk, .int (zI ik), .ref md, .int (zI ml), .ref me, .ref mo, .int (zI sp2_29), .int (zI wr2_30), .int (zI r_2), .int (zI r_2), .int (zI r_15), .int (zI r_15), .int (zI dp)], cI cA md 80 cd], ⟨rfl, by decide⟩, ?_⟩
      obtain ⟨m9, nd9⟩ := MP_plane hs0 m8 (h_27).1
      refine y_put C fp_X6_141 0 [cO y 6 [.ref ms, .ref ma, .ref mp, .int (zI np), .ref mk, .int (zI ik), .ref md, .int (zI ml), .ref me, .ref mo, .int (zI sp2_29), .int (zI wr2_30), .int (zI r_2), .int (zI r_2), .int (zI r_15), .int (zI r_15), .int (zI r_28)], cI cA md 80 cd] dX6_shape_119 rfl rfl rfl (by exact Nat.le_of_ble_eq_true rfl) rfl ?_
      refine hret _ _ _ dX6_shape_122 ⟨sp2_29, wr2_30, r_2, r_2, r_15, r_15, r_28, rfl, ?_⟩
      show (MQz cd ml s0 sp2_29 wr2_30 r_2 r_2 r_15 r_15 r_28) ∧ (0 ≤ sp2_29 ∧ sp2_29 ≤ ml) ∧ (wr2_30 = 0 ∨ wr2_30 = 1) ∧ (wr2_30 = 0 → (0 ≤ r_2 ∧ r_2 ≤ r_2 ∧ r_2 ≤ 7) ∧ (0 ≤ r_15 ∧ r_15 ≤ r_15 ∧ r_15 ≤ 31) ∧ 0 ≤ r_28 ∧ r_28 ≤ 4)
      exact ⟨m9, by omega, by omega, fun z => by have := nd9 z; omega⟩
    · have m6 := MP_dash5 hs0 m5 (by rcases n2 with z | z; exact z.2; exfalso; omega)
      refine y_aload_n C 0 dX6_shape_84 rfl ?_
      refine y_dup C dX6_shape_85 rfl ?_
      refine y_get C fg_X6_106 0 dX6_shape_86 rfl rfl ?_
      refine y_iconst C dX6_shape_89 ?_
      refine y_iadd C dX6_shape_90 ?_
      refine y_put C fp_X6_106 0 [cO y 6 [.ref ms, .ref ma, .ref mp, .int (zI np), .ref mk, .int (zI ik), .ref md, .int (zI ml), .ref me, .ref mo, .int (zI (sp2_16 + 1)), .int (zI wr2_17), .int (zI r_2), .int (zI r_2), .int (zI r_15), .int (zI r_15), .int (zI dp)], cI cA md 80 cd] dX6_shape_91 rfl rfl rfl (by exact Nat.le_of_ble_eq_true rfl) rfl ?_
      refine y_aload_n C 0 dX6_shape_94 rfl ?_
      refine y_aload_n C 0 dX6_shape_95 rfl ?_
      refine y_aload_n C 0 dX6_shape_96 rfl ?_
      refine y_get C fg_X6_135 0 dX6_shape_97 rfl rfl ?_
      refine y_mcalli C (m_X6_column (l := l) (D := D) (cA := cA) (cB := cB) (y := y) (ms := ms) (ma := ma) (mp := mp) (mk := mk) (md := md) (me := me) (mo := mo) (np := np) (ik := ik) (ml := ml) (sp := sp2_16 + 1) (wr := wr2_17) (tp := r_2) (bt := r_2) (lf := r_15) (rg := r_15) (dp := dp) (cd := cd) (low := r_15) (by first | assumption | omega | exact ⟨by omega, by omega⟩) (by have := nxt_lt (cd := cd) (ml := ml) (sp := (sp2_16 + 1) - 1); rw [Int.add_sub_cancel] at this; omega) (by first | assumption | omega | exact ⟨by omega, by omega⟩) (by first | assumption | omega | exact ⟨by omega, by omega⟩) (by first | assumption | omega | exact ⟨by omega, by omega⟩)) lk_X6_132 [0, 1] [] ⟨rfl, rfl, by decide, by decide, by decide⟩ (jb := 0) rfl rfl dX6_shape_100 rfl rfl ⟨by exact Nat.le_of_ble_eq_true rfl, by exact Nat.le_of_ble_eq_true rfl, rfl, rfl, by exact Nat.le_of_ble_eq_true rfl, by exact Nat.le_of_ble_eq_true rfl, by exact Nat.le_of_ble_eq_true rfl⟩ (fun r_33 w_36 h_32 => ?_)
      obtain ⟨sp2_34, wr2_35, rfl, h_32⟩ := h_32
      refine ⟨[0, 1], [cO y 6 [.ref ms, .ref ma, .ref mp, .int (zI np), .ref mk, .int (zI ik), .ref md, .int (zI ml), .ref me, .ref mo, .int (zI sp2_34), .int (zI wr2_35), .int (zI r_2), .int (zI r_2), .int (zI r_15), .int (zI r_15), .int (zI dp)], cI cA md 80 cd], ⟨rfl, by decide⟩, ?_⟩
      obtain ⟨m7, nd7⟩ := MP_right hs0 m6 (h_32).1
      refine y_put C fp_X6_138 0 [cO y 6 [.ref ms, .ref ma, .ref mp, .int (zI np), .ref mk, .int (zI ik), .ref md, .int (zI ml), .ref me, .ref mo, .int (zI sp2_34), .int (zI wr2_35), .int (zI r_2), .int (zI r_2), .int (zI r_15), .int (zI r_33), .int (zI dp)], cI cA md 80 cd] dX6_shape_103 rfl rfl rfl (by exact Nat.le_of_ble_eq_true rfl) rfl ?_
      refine y_aload_n C 0 dX6_shape_106 rfl ?_
      refine y_bipush C dX6_shape_107 (by decide +kernel) ?_
      refine y_mcallv C (m_X6_wants (l := l) (D := D) (cA := cA) (cB := cB) (y := y) (ms := ms) (ma := ma) (mp := mp) (mk := mk) (md := md) (me := me) (mo := mo) (np := np) (ik := ik) (ml := ml) (sp := sp2_34) (wr := wr2_35) (tp := r_2) (bt := r_2) (lf := r_15) (rg := r_33) (dp := dp) (cd := cd) (sg := 58) (by first | assumption | omega | exact ⟨by omega, by omega⟩) (by first | assumption | omega | exact ⟨by omega, by omega⟩) (by first | assumption | omega | exact ⟨by omega, by omega⟩) (by first | assumption | omega | exact ⟨by omega, by omega⟩) (by first | assumption | omega | exact ⟨by omega, by omega⟩)) lk_X6_129 [0, 1] [] ⟨rfl, rfl, by decide, by decide, by decide⟩ (jb := 0) rfl rfl dX6_shape_109 rfl rfl ⟨by exact Nat.le_of_ble_eq_true rfl, by exact Nat.le_of_ble_eq_true rfl, rfl, rfl, by exact Nat.le_of_ble_eq_true rfl, by exact Nat.le_of_ble_eq_true rfl, by exact Nat.le_of_ble_eq_true rfl⟩ (fun w_41 h_37 => ?_)
      obtain ⟨sp2_39, wr2_40, rfl, h_37⟩ := h_37
      refine ⟨[0, 1], [cO y 6 [.ref ms, .ref ma, .ref mp, .int (zI np), .ref mk, .int (zI ik), .ref md, .int (zI ml), .ref me, .ref mo, .int (zI sp2_39), .int (zI wr2_40), .int (zI r_2), .int (zI r_2), .int (zI r_15), .int (zI r_33), .int (zI dp)], cI cA md 80 cd], ⟨rfl, by decide⟩, ?_⟩
      first | have m8 := MP_colon7 hs0 m7 (fun z => (nd7 z).1) (h_37).1 | have m8 := MP_colon5 hs0 m5 (fun z => (nd5 z).1) (by rcases n2 with z | z; exfalso; omega; exact z.2) (h_37).1
      refine y_aload_n C 0 dX6_shape_112 rfl ?_
      refine y_aload_n C 0 dX6_shape_113 rfl ?_
      refine y_iconst C dX6_shape_114 ?_
      refine y_iconst C dX6_shape_115 ?_
      refine y_mcalli C (m_X6_digit (l := l) (D := D) (cA := cA) (cB := cB) (y := y) (ms := ms) (ma := ma) (mp := mp) (mk := mk) (md := md) (me := me) (mo := mo) (np := np) (ik := ik) (ml := ml) (sp := sp2_39) (wr := wr2_40) (tp := r_2) (bt := r_2) (lf := r_15) (rg := r_33) (dp := dp) (cd := cd) (lo := 0) (hi := 4) (by first | assumption | omega | exact ⟨by omega, by omega⟩) (by first | assumption | omega | exact ⟨by omega, by omega⟩) (by first | assumption | omega | exact ⟨by omega, by omega⟩) (by first | assumption | omega | exact ⟨by omega, by omega⟩) (by first | assumption | omega | exact ⟨by omega, by omega⟩) (by first | assumption | omega | exact ⟨by omega, by omega⟩)) lk_X6_117 [0, 1] [] ⟨rfl, rfl, by decide, by decide, by decide⟩ (jb := 0) rfl rfl dX6_shape_116 rfl rfl ⟨by exact Nat.le_of_ble_eq_true rfl, by exact Nat.le_of_ble_eq_true rfl, rfl, rfl, by exact Nat.le_of_ble_eq_true rfl, by exact Nat.le_of_ble_eq_true rfl, by exact Nat.le_of_ble_eq_true rfl⟩ (fun r_43 w_46 h_42 => ?_)
      obtain ⟨sp2_44, wr2_45, rfl, h_42⟩ := h_42
      refine ⟨[0, 1], [cO y 6 [.ref ms, .ref ma, .ref mp, .int (zI np), .ref mk, .int (zI ik), .ref md, .int (zI ml), .ref me, .ref mo, .int (zI sp2_44), .int (zI wr2_45), .int (zI r_2), .int (zI r_2), .int (zI r_15), .int (zI r_33), .int (zI dp)], cI cA md 80 cd], ⟨rfl, by decide⟩, ?_⟩
      obtain ⟨m9, nd9⟩ := MP_plane hs0 m8 (h_42).1
      refine y_put C fp_X6_141 0 [cO y 6 [.ref ms, .ref ma, .ref mp, .int (zI np), .ref mk, .int (zI ik), .ref md, .int (zI ml), .ref me, .ref mo, .int (zI sp2_44), .int (zI wr2_45), .int (zI r_2), .int (zI r_2), .int (zI r_15), .int (zI r_33), .int (zI r_43)], cI cA md 80 cd] dX6_shape_119 rfl rfl rfl (by exact Nat.le_of_ble_eq_true rfl) rfl ?_
      refine hret _ _ _ dX6_shape_122 ⟨sp2_44, wr2_45, r_2, r_2, r_15, r_33, r_43, rfl, ?_⟩
      show (MQz cd ml s0 sp2_44 wr2_45 r_2 r_2 r_15 r_33 r_43) ∧ (0 ≤ sp2_44 ∧ sp2_44 ≤ ml) ∧ (wr2_45 = 0 ∨ wr2_45 = 1) ∧ (wr2_45 = 0 → (0 ≤ r_2 ∧ r_2 ≤ r_2 ∧ r_2 ≤ 7) ∧ (0 ≤ r_15 ∧ r_15 ≤ r_33 ∧ r_33 ≤ 31) ∧ 0 ≤ r_43 ∧ r_43 ≤ 4)
      exact ⟨m9, by omega, by omega, fun z => by have := nd9 z; omega⟩
  · have m2 := MP_dash1 hs0 m1 (by rcases n1 with z | z; exact z.2; exfalso; omega)
    refine y_aload_n C 0 dX6_shape_28 rfl ?_
    refine y_dup C dX6_shape_29 rfl ?_
    refine y_get C fg_X6_106 0 dX6_shape_30 rfl rfl ?_
    refine y_iconst C dX6_shape_33 ?_
    refine y_iadd C dX6_shape_34 ?_
    refine y_put C fp_X6_106 0 [cO y 6 [.ref ms, .ref ma, .ref mp, .int (zI np), .ref mk, .int (zI ik), .ref md, .int (zI ml), .ref me, .ref mo, .int (zI (sp2_3 + 1)), .int (zI wr2_4), .int (zI r_2), .int (zI r_2), .int (zI lf), .int (zI rg), .int (zI dp)], cI cA md 80 cd] dX6_shape_35 rfl rfl rfl (by exact Nat.le_of_ble_eq_true rfl) rfl ?_
    refine y_aload_n C 0 dX6_shape_38 rfl ?_
    refine y_aload_n C 0 dX6_shape_39 rfl ?_
    refine y_aload_n C 0 dX6_shape_40 rfl ?_
    refine y_get C fg_X6_120 0 dX6_shape_41 rfl rfl ?_
    refine y_bipush C dX6_shape_44 (by decide +kernel) ?_
    refine y_mcalli C (m_X6_digit (l := l) (D := D) (cA := cA) (cB := cB) (y := y) (ms := ms) (ma := ma) (mp := mp) (mk := mk) (md := md) (me := me) (mo := mo) (np := np) (ik := ik) (ml := ml) (sp := sp2_3 + 1) (wr := wr2_4) (tp := r_2) (bt := r_2) (lf := lf) (rg := rg) (dp := dp) (cd := cd) (lo := r_2) (hi := 7) (by first | assumption | omega | exact ⟨by omega, by omega⟩) (by have := nxt_lt (cd := cd) (ml := ml) (sp := (sp2_3 + 1) - 1); rw [Int.add_sub_cancel] at this; omega) (by first | assumption | omega | exact ⟨by omega, by omega⟩) (by first | assumption | omega | exact ⟨by omega, by omega⟩) (by omega) (by first | assumption | omega | exact ⟨by omega, by omega⟩)) lk_X6_117 [0, 1] [] ⟨rfl, rfl, by decide, by decide, by decide⟩ (jb := 0) rfl rfl dX6_shape_46 rfl rfl ⟨by exact Nat.le_of_ble_eq_true rfl, by exact Nat.le_of_ble_eq_true rfl, rfl, rfl, by exact Nat.le_of_ble_eq_true rfl, by exact Nat.le_of_ble_eq_true rfl, by exact Nat.le_of_ble_eq_true rfl⟩ (fun r_48 w_51 h_47 => ?_)
    obtain ⟨sp2_49, wr2_50, rfl, h_47⟩ := h_47
    refine ⟨[0, 1], [cO y 6 [.ref ms, .ref ma, .ref mp, .int (zI np), .ref mk, .int (zI ik), .ref md, .int (zI ml), .ref me, .ref mo, .int (zI sp2_49), .int (zI wr2_50), .int (zI r_2), .int (zI r_2), .int (zI lf), .int (zI rg), .int (zI dp)], cI cA md 80 cd], ⟨rfl, by decide⟩, ?_⟩
    have m3 := MP_bot hs0 (fun z => by omega) m2 (h_47).1
    refine y_put C fp_X6_123 0 [cO y 6 [.ref ms, .ref ma, .ref mp, .int (zI np), .ref mk, .int (zI ik), .ref md, .int (zI ml), .ref me, .ref mo, .int (zI sp2_49), .int (zI wr2_50), .int (zI r_2), .int (zI r_48), .int (zI lf), .int (zI rg), .int (zI dp)], cI cA md 80 cd] dX6_shape_49 rfl rfl rfl (by exact Nat.le_of_ble_eq_true rfl) rfl ?_
    refine y_aload_n C 0 dX6_shape_52 rfl ?_
    refine y_bipush C dX6_shape_53 (by decide +kernel) ?_
    refine y_mcallv C (m_X6_wants (l := l) (D := D) (cA := cA) (cB := cB) (y := y) (ms := ms) (ma := ma) (mp := mp) (mk := mk) (md := md) (me := me) (mo := mo) (np := np) (ik := ik) (ml := ml) (sp := sp2_49) (wr := wr2_50) (tp := r_2) (bt := r_48) (lf := lf) (rg := rg) (dp := dp) (cd := cd) (sg := 44) (by first | assumption | omega | exact ⟨by omega, by omega⟩) (by first | assumption | omega | exact ⟨by omega, by omega⟩) (by first | assumption | omega | exact ⟨by omega, by omega⟩) (by first | assumption | omega | exact ⟨by omega, by omega⟩) (by first | assumption | omega | exact ⟨by omega, by omega⟩)) lk_X6_129 [0, 1] [] ⟨rfl, rfl, by decide, by decide, by decide⟩ (jb := 0) rfl rfl dX6_shape_55 rfl rfl ⟨by exact Nat.le_of_ble_eq_true rfl, by exact Nat.le_of_ble_eq_true rfl, rfl, rfl, by exact Nat.le_of_ble_eq_true rfl, by exact Nat.le_of_ble_eq_true rfl, by exact Nat.le_of_ble_eq_true rfl⟩ (fun w_56 h_52 => ?_)
    obtain ⟨sp2_54, wr2_55, rfl, h_52⟩ := h_52
    refine ⟨[0, 1], [cO y 6 [.ref ms, .ref ma, .ref mp, .int (zI np), .ref mk, .int (zI ik), .ref md, .int (zI ml), .ref me, .ref mo, .int (zI sp2_54), .int (zI wr2_55), .int (zI r_2), .int (zI r_48), .int (zI lf), .int (zI rg), .int (zI dp)], cI cA md 80 cd], ⟨rfl, by decide⟩, ?_⟩
    first | have m4 := MP_comma3 hs0 m3 (h_52).1 | have m4 := MP_comma1 hs0 m1 (by rcases n1 with z | z; exfalso; omega; exact z.2) (h_52).1
    refine y_aload_n C 0 dX6_shape_58 rfl ?_
    refine y_aload_n C 0 dX6_shape_59 rfl ?_
    refine y_iconst C dX6_shape_60 ?_
    refine y_mcalli C (m_X6_column (l := l) (D := D) (cA := cA) (cB := cB) (y := y) (ms := ms) (ma := ma) (mp := mp) (mk := mk) (md := md) (me := me) (mo := mo) (np := np) (ik := ik) (ml := ml) (sp := sp2_54) (wr := wr2_55) (tp := r_2) (bt := r_48) (lf := lf) (rg := rg) (dp := dp) (cd := cd) (low := 0) (by first | assumption | omega | exact ⟨by omega, by omega⟩) (by first | assumption | omega | exact ⟨by omega, by omega⟩) (by first | assumption | omega | exact ⟨by omega, by omega⟩) (by first | assumption | omega | exact ⟨by omega, by omega⟩) (by first | assumption | omega | exact ⟨by omega, by omega⟩)) lk_X6_132 [0, 1] [] ⟨rfl, rfl, by decide, by decide, by decide⟩ (jb := 0) rfl rfl dX6_shape_61 rfl rfl ⟨by exact Nat.le_of_ble_eq_true rfl, by exact Nat.le_of_ble_eq_true rfl, rfl, rfl, by exact Nat.le_of_ble_eq_true rfl, by exact Nat.le_of_ble_eq_true rfl, by exact Nat.le_of_ble_eq_true rfl⟩ (fun r_58 w_61 h_57 => ?_)
    obtain ⟨sp2_59, wr2_60, rfl, h_57⟩ := h_57
    refine ⟨[0, 1], [cO y 6 [.ref ms, .ref ma, .ref mp, .int (zI np), .ref mk, .int (zI ik), .ref md, .int (zI ml), .ref me, .ref mo, .int (zI sp2_59), .int (zI wr2_60), .int (zI r_2), .int (zI r_48), .int (zI lf), .int (zI rg), .int (zI dp)], cI cA md 80 cd], ⟨rfl, by decide⟩, ?_⟩
    obtain ⟨m5, nd5⟩ := MP_left hs0 m4 (h_57).1
    refine y_put C fp_X6_135 0 [cO y 6 [.ref ms, .ref ma, .ref mp, .int (zI np), .ref mk, .int (zI ik), .ref md, .int (zI ml), .ref me, .ref mo, .int (zI sp2_59), .int (zI wr2_60), .int (zI r_2), .int (zI r_48), .int (zI r_58), .int (zI rg), .int (zI dp)], cI cA md 80 cd] dX6_shape_64 rfl rfl rfl (by exact Nat.le_of_ble_eq_true rfl) rfl ?_
    refine y_aload_n C 0 dX6_shape_67 rfl ?_
    refine y_aload_n C 0 dX6_shape_68 rfl ?_
    refine y_get C fg_X6_135 0 dX6_shape_69 rfl rfl ?_
    refine y_put C fp_X6_138 0 [cO y 6 [.ref ms, .ref ma, .ref mp, .int (zI np), .ref mk, .int (zI ik), .ref md, .int (zI ml), .ref me, .ref mo, .int (zI sp2_59), .int (zI wr2_60), .int (zI r_2), .int (zI r_48), .int (zI r_58), .int (zI r_58), .int (zI dp)], cI cA md 80 cd] dX6_shape_72 rfl rfl rfl (by exact Nat.le_of_ble_eq_true rfl) rfl ?_
    refine y_aload_n C 0 dX6_shape_75 rfl ?_
    refine y_bipush C dX6_shape_76 (by decide +kernel) ?_
    refine y_pcall C (m_X6_isNext (l := l) (D := D) (cA := cA) (cB := cB) (y := y) (ms := ms) (ma := ma) (mp := mp) (mk := mk) (md := md) (me := me) (mo := mo) (np := np) (ik := ik) (ml := ml) (sp := sp2_59) (wr := wr2_60) (tp := r_2) (bt := r_48) (lf := r_58) (rg := r_58) (dp := dp) (cd := cd) (sg := 45) (by first | assumption | omega | exact ⟨by omega, by omega⟩) (by first | assumption | omega | exact ⟨by omega, by omega⟩) (by first | assumption | omega | exact ⟨by omega, by omega⟩) (by first | assumption | omega | exact ⟨by omega, by omega⟩) (by first | assumption | omega | exact ⟨by omega, by omega⟩)) lk_X6_126 [0, 1] [] [0, 1] ⟨rfl, rfl, by decide, by decide, by decide⟩ ⟨rfl, by decide⟩ rfl rfl dX6_shape_78 rfl rfl ⟨by exact Nat.le_of_ble_eq_true rfl, by exact Nat.le_of_ble_eq_true rfl, rfl, rfl, by exact Nat.le_of_ble_eq_true rfl, by exact Nat.le_of_ble_eq_true rfl, by exact Nat.le_of_ble_eq_true rfl⟩ (fun r_63 h_62 => ?_)
    have n2 := h_62
    refine y_if_eq C 106 dX6_shape_81 (by decide) ⟨by omega, by omega⟩ (fun c_64 => ?_) (fun c_64 => ?_)
    · refine y_aload_n C 0 dX6_shape_106 rfl ?_
      refine y_bipush C dX6_shape_107 (by decide +kernel) ?_
      refine y_mcallv C (m_X6_wants (l := l) (D := D) (cA := cA) (cB := cB) (y := y) (ms := ms) (ma := ma) (mp := mp) (mk := mk) (md := md) (me := me) (mo := mo) (np := np) (ik := ik) (ml := ml) (sp := sp2_59) (wr := wr2_60) (tp := r_2) (bt := r_48) (lf := r_58) (rg := r_58) (dp := dp) (cd := cd) (sg := 58) (by first | assumption | omega | exact ⟨by omega, by omega⟩) (by first | assumption | omega | exact ⟨by omega, by omega⟩) (by first | assumption | omega | exact ⟨by omega, by omega⟩) (by first | assumption | omega | exact ⟨by omega, by omega⟩) (by first | assumption | omega | exact ⟨by omega, by omega⟩)) lk_X6_129 [0, 1] [] ⟨rfl, rfl, by decide, by decide, by decide⟩ (jb := 0) rfl rfl dX6_shape_109 rfl rfl ⟨by exact Nat.le_of_ble_eq_true rfl, by exact Nat.le_of_ble_eq_true rfl, rfl, rfl, by exact Nat.le_of_ble_eq_true rfl, by exact Nat.le_of_ble_eq_true rfl, by exact Nat.le_of_ble_eq_true rfl⟩ (fun w_69 h_65 => ?_)
      obtain ⟨sp2_67, wr2_68, rfl, h_65⟩ := h_65
      refine ⟨[0, 1], [cO y 6 [.ref ms, .ref ma, .ref mp, .int (zI np), .ref mk, .int (zI ik), .ref md, .int (zI ml), .ref me, .ref mo, .int (zI sp2_67), .int (zI wr2_68), .int (zI r_2), .int (zI r_48), .int (zI r_58), .int (zI r_58), .int (zI dp)], cI cA md 80 cd], ⟨rfl, by decide⟩, ?_⟩
      first | have m8 := MP_colon7 hs0 m7 (fun z => (nd7 z).1) (h_65).1 | have m8 := MP_colon5 hs0 m5 (fun z => (nd5 z).1) (by rcases n2 with z | z; exfalso; omega; exact z.2) (h_65).1
      refine y_aload_n C 0 dX6_shape_112 rfl ?_
      refine y_aload_n C 0 dX6_shape_113 rfl ?_
      refine y_iconst C dX6_shape_114 ?_
      refine y_iconst C dX6_shape_115 ?_
      refine y_mcalli C (m_X6_digit (l := l) (D := D) (cA := cA) (cB := cB) (y := y) (ms := ms) (ma := ma) (mp := mp) (mk := mk) (md := md) (me := me) (mo := mo) (np := np) (ik := ik) (ml := ml) (sp := sp2_67) (wr := wr2_68) (tp := r_2) (bt := r_48) (lf := r_58) (rg := r_58) (dp := dp) (cd := cd) (lo := 0) (hi := 4) (by first | assumption | omega | exact ⟨by omega, by omega⟩) (by first | assumption | omega | exact ⟨by omega, by omega⟩) (by first | assumption | omega | exact ⟨by omega, by omega⟩) (by first | assumption | omega | exact ⟨by omega, by omega⟩) (by first | assumption | omega | exact ⟨by omega, by omega⟩) (by first | assumption | omega | exact ⟨by omega, by omega⟩)) lk_X6_117 [0, 1] [] ⟨rfl, rfl, by decide, by decide, by decide⟩ (jb := 0) rfl rfl dX6_shape_116 rfl rfl ⟨by exact Nat.le_of_ble_eq_true rfl, by exact Nat.le_of_ble_eq_true rfl, rfl, rfl, by exact Nat.le_of_ble_eq_true rfl, by exact Nat.le_of_ble_eq_true rfl, by exact Nat.le_of_ble_eq_true rfl⟩ (fun r_71 w_74 h_70 => ?_)
      obtain ⟨sp2_72, wr2_73, rfl, h_70⟩ := h_70
      refine ⟨[0, 1], [cO y 6 [.ref ms, .ref ma, .ref mp, .int (zI np), .ref mk, .int (zI ik), .ref md, .int (zI ml), .ref me, .ref mo, .int (zI sp2_72), .int (zI wr2_73), .int (zI r_2), .int (zI r_48), .int (zI r_58), .int (zI r_58), .int (zI dp)], cI cA md 80 cd], ⟨rfl, by decide⟩, ?_⟩
      obtain ⟨m9, nd9⟩ := MP_plane hs0 m8 (h_70).1
      refine y_put C fp_X6_141 0 [cO y 6 [.ref ms, .ref ma, .ref mp, .int (zI np), .ref mk, .int (zI ik), .ref md, .int (zI ml), .ref me, .ref mo, .int (zI sp2_72), .int (zI wr2_73), .int (zI r_2), .int (zI r_48), .int (zI r_58), .int (zI r_58), .int (zI r_71)], cI cA md 80 cd] dX6_shape_119 rfl rfl rfl (by exact Nat.le_of_ble_eq_true rfl) rfl ?_
      refine hret _ _ _ dX6_shape_122 ⟨sp2_72, wr2_73, r_2, r_48, r_58, r_58, r_71, rfl, ?_⟩
      show (MQz cd ml s0 sp2_72 wr2_73 r_2 r_48 r_58 r_58 r_71) ∧ (0 ≤ sp2_72 ∧ sp2_72 ≤ ml) ∧ (wr2_73 = 0 ∨ wr2_73 = 1) ∧ (wr2_73 = 0 → (0 ≤ r_2 ∧ r_2 ≤ r_48 ∧ r_48 ≤ 7) ∧ (0 ≤ r_58 ∧ r_58 ≤ r_58 ∧ r_58 ≤ 31) ∧ 0 ≤ r_71 ∧ r_71 ≤ 4)
      exact ⟨m9, by omega, by omega, fun z => by have := nd9 z; omega⟩
    · have m6 := MP_dash5 hs0 m5 (by rcases n2 with z | z; exact z.2; exfalso; omega)
      refine y_aload_n C 0 dX6_shape_84 rfl ?_
      refine y_dup C dX6_shape_85 rfl ?_
      refine y_get C fg_X6_106 0 dX6_shape_86 rfl rfl ?_
      refine y_iconst C dX6_shape_89 ?_
      refine y_iadd C dX6_shape_90 ?_
      refine y_put C fp_X6_106 0 [cO y 6 [.ref ms, .ref ma, .ref mp, .int (zI np), .ref mk, .int (zI ik), .ref md, .int (zI ml), .ref me, .ref mo, .int (zI (sp2_59 + 1)), .int (zI wr2_60), .int (zI r_2), .int (zI r_48), .int (zI r_58), .int (zI r_58), .int (zI dp)], cI cA md 80 cd] dX6_shape_91 rfl rfl rfl (by exact Nat.le_of_ble_eq_true rfl) rfl ?_
      refine y_aload_n C 0 dX6_shape_94 rfl ?_
      refine y_aload_n C 0 dX6_shape_95 rfl ?_
      refine y_aload_n C 0 dX6_shape_96 rfl ?_
      refine y_get C fg_X6_135 0 dX6_shape_97 rfl rfl ?_
      refine y_mcalli C (m_X6_column (l := l) (D := D) (cA := cA) (cB := cB) (y := y) (ms := ms) (ma := ma) (mp := mp) (mk := mk) (md := md) (me := me) (mo := mo) (np := np) (ik := ik) (ml := ml) (sp := sp2_59 + 1) (wr := wr2_60) (tp := r_2) (bt := r_48) (lf := r_58) (rg := r_58) (dp := dp) (cd := cd) (low := r_58) (by first | assumption | omega | exact ⟨by omega, by omega⟩) (by have := nxt_lt (cd := cd) (ml := ml) (sp := (sp2_59 + 1) - 1); rw [Int.add_sub_cancel] at this; omega) (by first | assumption | omega | exact ⟨by omega, by omega⟩) (by first | assumption | omega | exact ⟨by omega, by omega⟩) (by first | assumption | omega | exact ⟨by omega, by omega⟩)) lk_X6_132 [0, 1] [] ⟨rfl, rfl, by decide, by decide, by decide⟩ (jb := 0) rfl rfl dX6_shape_100 rfl rfl ⟨by exact Nat.le_of_ble_eq_true rfl, by exact Nat.le_of_ble_eq_true rfl, rfl, rfl, by exact Nat.le_of_ble_eq_true rfl, by exact Nat.le_of_ble_eq_true rfl, by exact Nat.le_of_ble_eq_true rfl⟩ (fun r_76 w_79 h_75 => ?_)
      obtain ⟨sp2_77, wr2_78, rfl, h_75⟩ := h_75
      refine ⟨[0, 1], [cO y 6 [.ref ms, .ref ma, .ref mp, .int (zI np), .ref mk, .int (zI ik), .ref md, .int (zI ml), .ref me, .ref mo, .int (zI sp2_77), .int (zI wr2_78), .int (zI r_2), .int (zI r_48), .int (zI r_58), .int (zI r_58), .int (zI dp)], cI cA md 80 cd], ⟨rfl, by decide⟩, ?_⟩
      obtain ⟨m7, nd7⟩ := MP_right hs0 m6 (h_75).1
      refine y_put C fp_X6_138 0 [cO y 6 [.ref ms, .ref ma, .ref mp, .int (zI np), .ref mk, .int (zI ik), .ref md, .int (zI ml), .ref me, .ref mo, .int (zI sp2_77), .int (zI wr2_78), .int (zI r_2), .int (zI r_48), .int (zI r_58), .int (zI r_76), .int (zI dp)], cI cA md 80 cd] dX6_shape_103 rfl rfl rfl (by exact Nat.le_of_ble_eq_true rfl) rfl ?_
      refine y_aload_n C 0 dX6_shape_106 rfl ?_
      refine y_bipush C dX6_shape_107 (by decide +kernel) ?_
      refine y_mcallv C (m_X6_wants (l := l) (D := D) (cA := cA) (cB := cB) (y := y) (ms := ms) (ma := ma) (mp := mp) (mk := mk) (md := md) (me := me) (mo := mo) (np := np) (ik := ik) (ml := ml) (sp := sp2_77) (wr := wr2_78) (tp := r_2) (bt := r_48) (lf := r_58) (rg := r_76) (dp := dp) (cd := cd) (sg := 58) (by first | assumption | omega | exact ⟨by omega, by omega⟩) (by first | assumption | omega | exact ⟨by omega, by omega⟩) (by first | assumption | omega | exact ⟨by omega, by omega⟩) (by first | assumption | omega | exact ⟨by omega, by omega⟩) (by first | assumption | omega | exact ⟨by omega, by omega⟩)) lk_X6_129 [0, 1] [] ⟨rfl, rfl, by decide, by decide, by decide⟩ (jb := 0) rfl rfl dX6_shape_109 rfl rfl ⟨by exact Nat.le_of_ble_eq_true rfl, by exact Nat.le_of_ble_eq_true rfl, rfl, rfl, by exact Nat.le_of_ble_eq_true rfl, by exact Nat.le_of_ble_eq_true rfl, by exact Nat.le_of_ble_eq_true rfl⟩ (fun w_84 h_80 => ?_)
      obtain ⟨sp2_82, wr2_83, rfl, h_80⟩ := h_80
      refine ⟨[0, 1], [cO y 6 [.ref ms, .ref ma, .ref mp, .int (zI np), .ref mk, .int (zI ik), .ref md, .int (zI ml), .ref me, .ref mo, .int (zI sp2_82), .int (zI wr2_83), .int (zI r_2), .int (zI r_48), .int (zI r_58), .int (zI r_76), .int (zI dp)], cI cA md 80 cd], ⟨rfl, by decide⟩, ?_⟩
      first | have m8 := MP_colon7 hs0 m7 (fun z => (nd7 z).1) (h_80).1 | have m8 := MP_colon5 hs0 m5 (fun z => (nd5 z).1) (by rcases n2 with z | z; exfalso; omega; exact z.2) (h_80).1
      refine y_aload_n C 0 dX6_shape_112 rfl ?_
      refine y_aload_n C 0 dX6_shape_113 rfl ?_
      refine y_iconst C dX6_shape_114 ?_
      refine y_iconst C dX6_shape_115 ?_
      refine y_mcalli C (m_X6_digit (l := l) (D := D) (cA := cA) (cB := cB) (y := y) (ms := ms) (ma := ma) (mp := mp) (mk := mk) (md := md) (me := me) (mo := mo) (np := np) (ik := ik) (ml := ml) (sp := sp2_82) (wr := wr2_83) (tp := r_2) (bt := r_48) (lf := r_58) (rg := r_76) (dp := dp) (cd := cd) (lo := 0) (hi := 4) (by first | assumption | omega | exact ⟨by omega, by omega⟩) (by first | assumption | omega | exact ⟨by omega, by omega⟩) (by first | assumption | omega | exact ⟨by omega, by omega⟩) (by first | assumption | omega | exact ⟨by omega, by omega⟩) (by first | assumption | omega | exact ⟨by omega, by omega⟩) (by first | assumption | omega | exact ⟨by omega, by omega⟩)) lk_X6_117 [0, 1] [] ⟨rfl, rfl, by decide, by decide, by decide⟩ (jb := 0) rfl rfl dX6_shape_116 rfl rfl ⟨by exact Nat.le_of_ble_eq_true rfl, by exact Nat.le_of_ble_eq_true rfl, rfl, rfl, by exact Nat.le_of_ble_eq_true rfl, by exact Nat.le_of_ble_eq_true rfl, by exact Nat.le_of_ble_eq_true rfl⟩ (fun r_86 w_89 h_85 => ?_)
      obtain ⟨sp2_87, wr2_88, rfl, h_85⟩ := h_85
      refine ⟨[0, 1], [cO y 6 [.ref ms, .ref ma, .ref mp, .int (zI np), .ref mk, .int (zI ik), .ref md, .int (zI ml), .ref me, .ref mo, .int (zI sp2_87), .int (zI wr2_88), .int (zI r_2), .int (zI r_48), .int (zI r_58), .int (zI r_76), .int (zI dp)], cI cA md 80 cd], ⟨rfl, by decide⟩, ?_⟩
      obtain ⟨m9, nd9⟩ := MP_plane hs0 m8 (h_85).1
      refine y_put C fp_X6_141 0 [cO y 6 [.ref ms, .ref ma, .ref mp, .int (zI np), .ref mk, .int (zI ik), .ref md, .int (zI ml), .ref me, .ref mo, .int (zI sp2_87), .int (zI wr2_88), .int (zI r_2), .int (zI r_48), .int (zI r_58), .int (zI r_76), .int (zI r_86)], cI cA md 80 cd] dX6_shape_119 rfl rfl rfl (by exact Nat.le_of_ble_eq_true rfl) rfl ?_
      refine hret _ _ _ dX6_shape_122 ⟨sp2_87, wr2_88, r_2, r_48, r_58, r_76, r_86, rfl, ?_⟩
      show (MQz cd ml s0 sp2_87 wr2_88 r_2 r_48 r_58 r_76 r_86) ∧ (0 ≤ sp2_87 ∧ sp2_87 ≤ ml) ∧ (wr2_88 = 0 ∨ wr2_88 = 1) ∧ (wr2_88 = 0 → (0 ≤ r_2 ∧ r_2 ≤ r_48 ∧ r_48 ≤ 7) ∧ (0 ≤ r_58 ∧ r_58 ≤ r_76 ∧ r_76 ≤ 31) ∧ 0 ≤ r_86 ∧ r_86 ≤ 4)
      exact ⟨m9, by omega, by omega, fun z => by have := nd9 z; omega⟩

set_option maxHeartbeats 4000000 in
set_option maxRecDepth 100000 in
theorem m_X6_goesWrong_0 {l : Launch} {D : va_G} {cA cB : ClassId} {y ms ma mp mk md me mo : Nat} {np ik ml sp wr tp bt lf rg dp : Int} {cd : Int → Int} (hml : 0 ≤ ml ∧ ml ≤ 80) (hcd : ∀ k : Int, 0 ≤ k → k < 80 → 0 ≤ cd k ∧ cd k ≤ 126) : MI l yX6_goesWrong cX6_goesWrong 3 .boolean { frames := 4, cells := 0, slots := 0, locals := 89 } D (zT cA cB) [.ref y, .int (zI 0)] [cO y 6 [.ref ms, .ref ma, .ref mp, .int (zI np), .ref mk, .int (zI ik), .ref md, .int (zI ml), .ref me, .ref mo, .int (zI sp), .int (zI wr), .int (zI tp), .int (zI bt), .int (zI lf), .int (zI rg), .int (zI dp)], cI cA md 80 cd] (fun r w => ∃ (sp2 : Int), ∃ (wr2 : Int), ∃ (tp2 : Int), ∃ (bt2 : Int), ∃ (lf2 : Int), ∃ (rg2 : Int), ∃ (dp2 : Int), w = [cO y 6 [.ref ms, .ref ma, .ref mp, .int (zI np), .ref mk, .int (zI ik), .ref md, .int (zI ml), .ref me, .ref mo, .int (zI sp2), .int (zI wr2), .int (zI tp2), .int (zI bt2), .int (zI lf2), .int (zI rg2), .int (zI dp2)], cI cA md 80 cd] ∧ ((r = 1 ∧ fsZ cd ml = sp2) ∨ (r = 0 ∧ fsZ cd ml = -4)) ∧ (0 ≤ sp2 ∧ sp2 ≤ ml) ∧ (wr2 = 0 ∨ wr2 = 1)) := by
  refine MI.of RX6 ⟨rfl, by decide +kernel⟩ (Or.inr rfl) (Nat.le_of_ble_eq_true rfl) (fun _ r w h => by obtain ⟨_, _, _, _, _, _, _, -, h⟩ := h; omega) ?_
  intro K C hret
  change K 0 0 _ [(0, .ref y), (1, .int (zI 0))] 0 []
  refine y_aload_n C 0 dX6_goesWrong_0 rfl ?_
  refine y_iconst C dX6_goesWrong_1 ?_
  refine y_put C fp_X6_106 0 [cO y 6 [.ref ms, .ref ma, .ref mp, .int (zI np), .ref mk, .int (zI ik), .ref md, .int (zI ml), .ref me, .ref mo, .int (zI 0), .int (zI wr), .int (zI tp), .int (zI bt), .int (zI lf), .int (zI rg), .int (zI dp)], cI cA md 80 cd] dX6_goesWrong_2 rfl rfl rfl (by exact Nat.le_of_ble_eq_true rfl) rfl ?_
  refine y_aload_n C 0 dX6_goesWrong_5 rfl ?_
  refine y_iconst C dX6_goesWrong_6 ?_
  refine y_put C fp_X6_109 0 [cO y 6 [.ref ms, .ref ma, .ref mp, .int (zI np), .ref mk, .int (zI ik), .ref md, .int (zI ml), .ref me, .ref mo, .int (zI 0), .int (zI 0), .int (zI tp), .int (zI bt), .int (zI lf), .int (zI rg), .int (zI dp)], cI cA md 80 cd] dX6_goesWrong_7 rfl (zbn (by omega)) (zbf (by omega)) (by exact Nat.le_of_ble_eq_true rfl) rfl ?_
  refine y_iconst C dX6_goesWrong_10 ?_
  refine y_istore_n C [(2, .int (zI 1)), (0, .ref y), (1, .int (zI 0))] dX6_goesWrong_11 (by decide) rfl ?_
  refine y_lsub C [1, 2, 0] (lv' := [(0, .ref y), (1, .int (zI 0)), (2, .int (zI 1))]) rfl ?_
  suffices hL12 : ∀ (fu : Nat) (more : Int) (sp6 : Int) (wr6 : Int) (tp6 : Int) (bt6 : Int) (lf6 : Int) (rg6 : Int) (dp6 : Int), (0 ≤ sp6 ∧ sp6 ≤ ml) → (wr6 = 0 ∨ wr6 = 1) → ((more = 1 ∧ wr6 = 0 ∧ ∃ a1 a2 a3 a4 a5, rnZ cd sp6 = some (a1, a2, a3, a4, a5, 0)) ∨ (more = 0 ∧ ((wr6 = 1 ∧ fsZ cd ml = sp6) ∨ (wr6 = 0 ∧ fsZ cd ml = -4)))) → ((ml - sp6) * 2 + more).toNat < fu → K 0 0 [cO y 6 [.ref ms, .ref ma, .ref mp, .int (zI np), .ref mk, .int (zI ik), .ref md, .int (zI ml), .ref me, .ref mo, .int (zI sp6), .int (zI wr6), .int (zI tp6), .int (zI bt6), .int (zI lf6), .int (zI rg6), .int (zI dp6)], cI cA md 80 cd] [(0, .ref y), (1, .int (zI 0)), (2, .int (zI more))] 12 [] from hL12 _ 1 0 0 tp bt lf rg dp (by omega) (by omega) (by exact Or.inl ⟨rfl, rfl, 0, 0, 0, 0, 0, rfl⟩) (Nat.lt_succ_self _)
  intro f12
  induction f12 with
  | zero => exact fun _ _ _ _ _ _ _ _ _ _ _ hf => absurd hf (Nat.not_lt_zero _)
  | succ f12 ih12 =>
    intro more sp6 wr6 tp6 bt6 lf6 rg6 dp6 hsp6 hwr6 hst hf12
    refine y_iload_n C 2 dX6_goesWrong_12 rfl ?_
    refine y_if_eq C 105 dX6_goesWrong_13 (by decide) ⟨by omega, by omega⟩ (fun c_1 => ?_) (fun c_1 => ?_)
    · refine y_aload_n C 0 dX6_goesWrong_105 rfl ?_
      refine y_get C fg_X6_109 0 dX6_goesWrong_106 rfl rfl ?_
      refine hret _ _ _ _ dX6_goesWrong_109 ⟨sp6, wr6, tp6, bt6, lf6, rg6, dp6, rfl, ?_⟩
      show ((wr6 = 1 ∧ fsZ cd ml = sp6) ∨ (wr6 = 0 ∧ fsZ cd ml = -4)) ∧ (0 ≤ sp6 ∧ sp6 ≤ ml) ∧ (wr6 = 0 ∨ wr6 = 1)
      refine ⟨by omega, hsp6, hwr6⟩
    · obtain ⟨g1, g2, a1, a2, a3, a4, a5, g3⟩ : more = 1 ∧ wr6 = 0 ∧ ∃ a1 a2 a3 a4 a5, rnZ cd sp6 = some (a1, a2, a3, a4, a5, 0) := by rcases hst with z | z; exact z; exfalso; omega
      have hmp : MP cd ml sp6 sp6 wr6 a1 a2 a3 a4 a5 0 := Or.inl ⟨g2, by omega, by omega, g3, fun _ => rfl⟩
      refine y_aload_n C 0 dX6_goesWrong_16 rfl ?_
      refine y_mcallv C (m_X6_shape (l := l) (D := D) (cA := cA) (cB := cB) (y := y) (ms := ms) (ma := ma) (mp := mp) (mk := mk) (md := md) (me := me) (mo := mo) (np := np) (ik := ik) (ml := ml) (sp := sp6) (wr := wr6) (tp := tp6) (bt := bt6) (lf := lf6) (rg := rg6) (dp := dp6) (cd := cd) (s0 := sp6) (z1 := a1) (z2 := a2) (z3 := a3) (z4 := a4) (z5 := a5) (by first | assumption | omega | exact ⟨by omega, by omega⟩) (by first | assumption | omega | exact ⟨by omega, by omega⟩) (by first | assumption | omega | exact ⟨by omega, by omega⟩) (by first | assumption | omega | exact ⟨by omega, by omega⟩) (by first | assumption | omega | exact ⟨by omega, by omega⟩) (by first | assumption | omega | exact ⟨by omega, by omega⟩)) lk_X6_144 [0, 1] [] ⟨rfl, rfl, by decide, by decide, by decide⟩ (jb := 0) rfl rfl dX6_goesWrong_17 rfl rfl ⟨by exact Nat.le_of_ble_eq_true rfl, by exact Nat.le_of_ble_eq_true rfl, rfl, rfl, by exact Nat.le_of_ble_eq_true rfl, by exact Nat.le_of_ble_eq_true rfl, by exact Nat.le_of_ble_eq_true rfl⟩ (fun w_11 h_2 => ?_)
      obtain ⟨sp2_4, wr2_5, tp2_6, bt2_7, lf2_8, rg2_9, dp2_10, rfl, h_2⟩ := h_2
      refine ⟨[0, 1], [cO y 6 [.ref ms, .ref ma, .ref mp, .int (zI np), .ref mk, .int (zI ik), .ref md, .int (zI ml), .ref me, .ref mo, .int (zI sp2_4), .int (zI wr2_5), .int (zI tp2_6), .int (zI bt2_7), .int (zI lf2_8), .int (zI rg2_9), .int (zI dp2_10)], cI cA md 80 cd], ⟨rfl, by decide⟩, ?_⟩
      have hq := (h_2).1
      have hq2 := (h_2).2.1
      have hq3 := (h_2).2.2.1
      have hq4 := (h_2).2.2.2
      refine y_aload_n C 0 dX6_goesWrong_20 rfl ?_
      refine y_get C fg_X6_109 0 dX6_goesWrong_21 rfl rfl ?_
      refine y_if_ne C 55 dX6_goesWrong_24 (by decide) ⟨by omega, by omega⟩ (fun c_12 => ?_) (fun c_12 => ?_)
      · refine y_aload_n C 0 dX6_goesWrong_55 rfl ?_
        refine y_get C fg_X6_109 0 dX6_goesWrong_56 rfl rfl ?_
        refine y_if_ne C 77 dX6_goesWrong_59 (by decide) ⟨by omega, by omega⟩ (fun c_13 => ?_) (fun c_13 => ?_)
        · refine y_iconst C dX6_goesWrong_77 ?_
          refine y_istore_n C [(2, .int (zI 0)), (0, .ref y), (1, .int (zI 0))] dX6_goesWrong_78 (by decide) rfl ?_
          refine y_iload_n C 0 dX6_goesWrong_79 rfl ?_
          refine y_if_eq C 12 dX6_goesWrong_80 (by decide) ⟨by omega, by omega⟩ (fun _ => ?_) (fun h => absurd h (by decide))
          refine y_lsub C [1, 2, 0] (lv' := [(0, .ref y), (1, .int (zI 0)), (2, .int (zI 0))]) rfl ?_
          exact ih12 0 sp2_4 wr2_5 tp2_6 bt2_7 lf2_8 rg2_9 dp2_10 (by omega) (by omega) (by first | (rcases hs with ⟨s1, s2, s3, s4, s5, s6⟩ | ⟨s1, s2, s3, s4⟩; (first | (exfalso; omega) | exact Or.inl ⟨rfl, s1, _, _, _, _, _, s5⟩); (first | (exfalso; omega) | exact Or.inr ⟨rfl, Or.inl ⟨s1, fsZ_of hml.1 s4⟩⟩)) | exact Or.inr ⟨rfl, Or.inl ⟨by omega, MP_stop hml.1 hq (by omega)⟩⟩ | exact Or.inr ⟨rfl, Or.inr ⟨by omega, (MQ_end hml.1 hq (by omega) (by omega)).1⟩⟩) (by first | (rcases hs with hs | hs <;> omega) | (rcases hq with ⟨-, b1, -⟩ | ⟨-, b1, -⟩ <;> omega))
        · refine y_aload_n C 0 dX6_goesWrong_62 rfl ?_
          refine y_get C fg_X6_106 0 dX6_goesWrong_63 rfl rfl ?_
          refine y_aload_n C 0 dX6_goesWrong_66 rfl ?_
          refine y_get C fg_X6_103 0 dX6_goesWrong_67 rfl rfl ?_
          refine y_icmp_ge C 77 dX6_goesWrong_70 (by decide) ⟨⟨by omega, by omega⟩, ⟨by omega, by omega⟩⟩ (fun c_15 => ?_) (fun c_15 => ?_)
          · refine y_iconst C dX6_goesWrong_77 ?_
            refine y_istore_n C [(2, .int (zI 0)), (0, .ref y), (1, .int (zI 0))] dX6_goesWrong_78 (by decide) rfl ?_
            refine y_iload_n C 0 dX6_goesWrong_79 rfl ?_
            refine y_if_eq C 12 dX6_goesWrong_80 (by decide) ⟨by omega, by omega⟩ (fun _ => ?_) (fun h => absurd h (by decide))
            refine y_lsub C [1, 2, 0] (lv' := [(0, .ref y), (1, .int (zI 0)), (2, .int (zI 0))]) rfl ?_
            exact ih12 0 sp2_4 wr2_5 tp2_6 bt2_7 lf2_8 rg2_9 dp2_10 (by omega) (by omega) (by first | (rcases hs with ⟨s1, s2, s3, s4, s5, s6⟩ | ⟨s1, s2, s3, s4⟩; (first | (exfalso; omega) | exact Or.inl ⟨rfl, s1, _, _, _, _, _, s5⟩); (first | (exfalso; omega) | exact Or.inr ⟨rfl, Or.inl ⟨s1, fsZ_of hml.1 s4⟩⟩)) | exact Or.inr ⟨rfl, Or.inl ⟨by omega, MP_stop hml.1 hq (by omega)⟩⟩ | exact Or.inr ⟨rfl, Or.inr ⟨by omega, (MQ_end hml.1 hq (by omega) (by omega)).1⟩⟩) (by first | (rcases hs with hs | hs <;> omega) | (rcases hq with ⟨-, b1, -⟩ | ⟨-, b1, -⟩ <;> omega))
          · refine y_iconst C dX6_goesWrong_73 ?_
            refine y_goto C 78 dX6_goesWrong_74 (by decide) ?_
            refine y_istore_n C [(2, .int (zI 1)), (0, .ref y), (1, .int (zI 0))] dX6_goesWrong_78 (by decide) rfl ?_
            refine y_iload_n C 0 dX6_goesWrong_79 rfl ?_
            refine y_if_eq C 12 dX6_goesWrong_80 (by decide) ⟨by omega, by omega⟩ (fun h => absurd h (by decide)) (fun _ => ?_)
            refine y_aload_n C 1 dX6_goesWrong_83 rfl ?_
            refine y_bipush C dX6_goesWrong_84 (by decide +kernel) ?_
            refine y_mcallv C (m_X6_wants (l := l) (D := D) (cA := cA) (cB := cB) (y := y) (ms := ms) (ma := ma) (mp := mp) (mk := mk) (md := md) (me := me) (mo := mo) (np := np) (ik := ik) (ml := ml) (sp := sp2_4) (wr := wr2_5) (tp := tp2_6) (bt := bt2_7) (lf := lf2_8) (rg := rg2_9) (dp := dp2_10) (cd := cd) (sg := 59) (by first | assumption | omega | exact ⟨by omega, by omega⟩) (by first | assumption | omega | exact ⟨by omega, by omega⟩) (by first | assumption | omega | exact ⟨by omega, by omega⟩) (by first | assumption | omega | exact ⟨by omega, by omega⟩) (by first | assumption | omega | exact ⟨by omega, by omega⟩)) lk_X6_129 [0, 1] [] ⟨rfl, rfl, by decide, by decide, by decide⟩ (jb := 0) rfl rfl dX6_goesWrong_86 rfl rfl ⟨by exact Nat.le_of_ble_eq_true rfl, by exact Nat.le_of_ble_eq_true rfl, rfl, rfl, by exact Nat.le_of_ble_eq_true rfl, by exact Nat.le_of_ble_eq_true rfl, by exact Nat.le_of_ble_eq_true rfl⟩ (fun w_22 h_18 => ?_)
            obtain ⟨sp2_20, wr2_21, rfl, h_18⟩ := h_18
            refine ⟨[0, 1], [cO y 6 [.ref ms, .ref ma, .ref mp, .int (zI np), .ref mk, .int (zI ik), .ref md, .int (zI ml), .ref me, .ref mo, .int (zI sp2_20), .int (zI wr2_21), .int (zI tp2_6), .int (zI bt2_7), .int (zI lf2_8), .int (zI rg2_9), .int (zI dp2_10)], cI cA md 80 cd], ⟨rfl, by decide⟩, ?_⟩
            have hs := MQ_semi (by omega) hq (by omega) (by omega) (h_18).1
            have hs2 := (h_18).2
            refine y_aload_n C 1 dX6_goesWrong_89 rfl ?_
            refine y_get C fg_X6_109 0 dX6_goesWrong_90 rfl rfl ?_
            refine y_if_ne C 100 dX6_goesWrong_93 (by decide) ⟨by omega, by omega⟩ (fun c_23 => ?_) (fun c_23 => ?_)
            · refine y_iconst C dX6_goesWrong_100 ?_
              refine y_istore_n C [(2, .int (zI 0)), (0, .ref y), (1, .int (zI 0))] dX6_goesWrong_101 (by decide) rfl ?_
              refine y_goto C 12 dX6_goesWrong_102 (by decide) ?_
              refine y_lsub C [1, 2, 0] (lv' := [(0, .ref y), (1, .int (zI 0)), (2, .int (zI 0))]) rfl ?_
              exact ih12 0 sp2_20 wr2_21 tp2_6 bt2_7 lf2_8 rg2_9 dp2_10 (by omega) (by omega) (by first | (rcases hs with ⟨s1, s2, s3, s4, s5, s6⟩ | ⟨s1, s2, s3, s4⟩; (first | (exfalso; omega) | exact Or.inl ⟨rfl, s1, _, _, _, _, _, s5⟩); (first | (exfalso; omega) | exact Or.inr ⟨rfl, Or.inl ⟨s1, fsZ_of hml.1 s4⟩⟩)) | exact Or.inr ⟨rfl, Or.inl ⟨by omega, MP_stop hml.1 hq (by omega)⟩⟩ | exact Or.inr ⟨rfl, Or.inr ⟨by omega, (MQ_end hml.1 hq (by omega) (by omega)).1⟩⟩) (by first | (rcases hs with hs | hs <;> omega) | (rcases hq with ⟨-, b1, -⟩ | ⟨-, b1, -⟩ <;> omega))
            · refine y_iconst C dX6_goesWrong_96 ?_
              refine y_goto C 101 dX6_goesWrong_97 (by decide) ?_
              refine y_istore_n C [(2, .int (zI 1)), (0, .ref y), (1, .int (zI 0))] dX6_goesWrong_101 (by decide) rfl ?_
              refine y_goto C 12 dX6_goesWrong_102 (by decide) ?_
              refine y_lsub C [1, 2, 0] (lv' := [(0, .ref y), (1, .int (zI 0)), (2, .int (zI 1))]) rfl ?_
              exact ih12 1 sp2_20 wr2_21 tp2_6 bt2_7 lf2_8 rg2_9 dp2_10 (by omega) (by omega) (by first | (rcases hs with ⟨s1, s2, s3, s4, s5, s6⟩ | ⟨s1, s2, s3, s4⟩; (first | (exfalso; omega) | exact Or.inl ⟨rfl, s1, _, _, _, _, _, s5⟩); (first | (exfalso; omega) | exact Or.inr ⟨rfl, Or.inl ⟨s1, fsZ_of hml.1 s4⟩⟩)) | exact Or.inr ⟨rfl, Or.inl ⟨by omega, MP_stop hml.1 hq (by omega)⟩⟩ | exact Or.inr ⟨rfl, Or.inr ⟨by omega, (MQ_end hml.1 hq (by omega) (by omega)).1⟩⟩) (by first | (rcases hs with hs | hs <;> omega) | (rcases hq with ⟨-, b1, -⟩ | ⟨-, b1, -⟩ <;> omega))
      · refine y_iload_n C 1 dX6_goesWrong_27 rfl ?_
        refine y_if_eq C 55 dX6_goesWrong_28 (by decide) ⟨by omega, by omega⟩ (fun _ => ?_) (fun h => absurd h (by decide))
        refine y_aload_n C 0 dX6_goesWrong_55 rfl ?_
        refine y_get C fg_X6_109 0 dX6_goesWrong_56 rfl rfl ?_
        refine y_if_ne C 77 dX6_goesWrong_59 (by decide) ⟨by omega, by omega⟩ (fun c_25 => ?_) (fun c_25 => ?_)
        · refine y_iconst C dX6_goesWrong_77 ?_
          refine y_istore_n C [(2, .int (zI 0)), (0, .ref y), (1, .int (zI 0))] dX6_goesWrong_78 (by decide) rfl ?_
          refine y_iload_n C 0 dX6_goesWrong_79 rfl ?_
          refine y_if_eq C 12 dX6_goesWrong_80 (by decide) ⟨by omega, by omega⟩ (fun _ => ?_) (fun h => absurd h (by decide))
          refine y_lsub C [1, 2, 0] (lv' := [(0, .ref y), (1, .int (zI 0)), (2, .int (zI 0))]) rfl ?_
          exact ih12 0 sp2_4 wr2_5 tp2_6 bt2_7 lf2_8 rg2_9 dp2_10 (by omega) (by omega) (by first | (rcases hs with ⟨s1, s2, s3, s4, s5, s6⟩ | ⟨s1, s2, s3, s4⟩; (first | (exfalso; omega) | exact Or.inl ⟨rfl, s1, _, _, _, _, _, s5⟩); (first | (exfalso; omega) | exact Or.inr ⟨rfl, Or.inl ⟨s1, fsZ_of hml.1 s4⟩⟩)) | exact Or.inr ⟨rfl, Or.inl ⟨by omega, MP_stop hml.1 hq (by omega)⟩⟩ | exact Or.inr ⟨rfl, Or.inr ⟨by omega, (MQ_end hml.1 hq (by omega) (by omega)).1⟩⟩) (by first | (rcases hs with hs | hs <;> omega) | (rcases hq with ⟨-, b1, -⟩ | ⟨-, b1, -⟩ <;> omega))
        · refine y_aload_n C 0 dX6_goesWrong_62 rfl ?_
          refine y_get C fg_X6_106 0 dX6_goesWrong_63 rfl rfl ?_
          refine y_aload_n C 0 dX6_goesWrong_66 rfl ?_
          refine y_get C fg_X6_103 0 dX6_goesWrong_67 rfl rfl ?_
          refine y_icmp_ge C 77 dX6_goesWrong_70 (by decide) ⟨⟨by omega, by omega⟩, ⟨by omega, by omega⟩⟩ (fun c_27 => ?_) (fun c_27 => ?_)
          · refine y_iconst C dX6_goesWrong_77 ?_
            refine y_istore_n C [(2, .int (zI 0)), (0, .ref y), (1, .int (zI 0))] dX6_goesWrong_78 (by decide) rfl ?_
            refine y_iload_n C 0 dX6_goesWrong_79 rfl ?_
            refine y_if_eq C 12 dX6_goesWrong_80 (by decide) ⟨by omega, by omega⟩ (fun _ => ?_) (fun h => absurd h (by decide))
            refine y_lsub C [1, 2, 0] (lv' := [(0, .ref y), (1, .int (zI 0)), (2, .int (zI 0))]) rfl ?_
            exact ih12 0 sp2_4 wr2_5 tp2_6 bt2_7 lf2_8 rg2_9 dp2_10 (by omega) (by omega) (by first | (rcases hs with ⟨s1, s2, s3, s4, s5, s6⟩ | ⟨s1, s2, s3, s4⟩; (first | (exfalso; omega) | exact Or.inl ⟨rfl, s1, _, _, _, _, _, s5⟩); (first | (exfalso; omega) | exact Or.inr ⟨rfl, Or.inl ⟨s1, fsZ_of hml.1 s4⟩⟩)) | exact Or.inr ⟨rfl, Or.inl ⟨by omega, MP_stop hml.1 hq (by omega)⟩⟩ | exact Or.inr ⟨rfl, Or.inr ⟨by omega, (MQ_end hml.1 hq (by omega) (by omega)).1⟩⟩) (by first | (rcases hs with hs | hs <;> omega) | (rcases hq with ⟨-, b1, -⟩ | ⟨-, b1, -⟩ <;> omega))
          · refine y_iconst C dX6_goesWrong_73 ?_
            refine y_goto C 78 dX6_goesWrong_74 (by decide) ?_
            refine y_istore_n C [(2, .int (zI 1)), (0, .ref y), (1, .int (zI 0))] dX6_goesWrong_78 (by decide) rfl ?_
            refine y_iload_n C 0 dX6_goesWrong_79 rfl ?_
            refine y_if_eq C 12 dX6_goesWrong_80 (by decide) ⟨by omega, by omega⟩ (fun h => absurd h (by decide)) (fun _ => ?_)
            refine y_aload_n C 1 dX6_goesWrong_83 rfl ?_
            refine y_bipush C dX6_goesWrong_84 (by decide +kernel) ?_
            refine y_mcallv C (m_X6_wants (l := l) (D := D) (cA := cA) (cB := cB) (y := y) (ms := ms) (ma := ma) (mp := mp) (mk := mk) (md := md) (me := me) (mo := mo) (np := np) (ik := ik) (ml := ml) (sp := sp2_4) (wr := wr2_5) (tp := tp2_6) (bt := bt2_7) (lf := lf2_8) (rg := rg2_9) (dp := dp2_10) (cd := cd) (sg := 59) (by first | assumption | omega | exact ⟨by omega, by omega⟩) (by first | assumption | omega | exact ⟨by omega, by omega⟩) (by first | assumption | omega | exact ⟨by omega, by omega⟩) (by first | assumption | omega | exact ⟨by omega, by omega⟩) (by first | assumption | omega | exact ⟨by omega, by omega⟩)) lk_X6_129 [0, 1] [] ⟨rfl, rfl, by decide, by decide, by decide⟩ (jb := 0) rfl rfl dX6_goesWrong_86 rfl rfl ⟨by exact Nat.le_of_ble_eq_true rfl, by exact Nat.le_of_ble_eq_true rfl, rfl, rfl, by exact Nat.le_of_ble_eq_true rfl, by exact Nat.le_of_ble_eq_true rfl, by exact Nat.le_of_ble_eq_true rfl⟩ (fun w_34 h_30 => ?_)
            obtain ⟨sp2_32, wr2_33, rfl, h_30⟩ := h_30
            refine ⟨[0, 1], [cO y 6 [.ref ms, .ref ma, .ref mp, .int (zI np), .ref mk, .int (zI ik), .ref md, .int (zI ml), .ref me, .ref mo, .int (zI sp2_32), .int (zI wr2_33), .int (zI tp2_6), .int (zI bt2_7), .int (zI lf2_8), .int (zI rg2_9), .int (zI dp2_10)], cI cA md 80 cd], ⟨rfl, by decide⟩, ?_⟩
            have hs := MQ_semi (by omega) hq (by omega) (by omega) (h_30).1
            have hs2 := (h_30).2
            refine y_aload_n C 1 dX6_goesWrong_89 rfl ?_
            refine y_get C fg_X6_109 0 dX6_goesWrong_90 rfl rfl ?_
            refine y_if_ne C 100 dX6_goesWrong_93 (by decide) ⟨by omega, by omega⟩ (fun c_35 => ?_) (fun c_35 => ?_)
            · refine y_iconst C dX6_goesWrong_100 ?_
              refine y_istore_n C [(2, .int (zI 0)), (0, .ref y), (1, .int (zI 0))] dX6_goesWrong_101 (by decide) rfl ?_
              refine y_goto C 12 dX6_goesWrong_102 (by decide) ?_
              refine y_lsub C [1, 2, 0] (lv' := [(0, .ref y), (1, .int (zI 0)), (2, .int (zI 0))]) rfl ?_
              exact ih12 0 sp2_32 wr2_33 tp2_6 bt2_7 lf2_8 rg2_9 dp2_10 (by omega) (by omega) (by first | (rcases hs with ⟨s1, s2, s3, s4, s5, s6⟩ | ⟨s1, s2, s3, s4⟩; (first | (exfalso; omega) | exact Or.inl ⟨rfl, s1, _, _, _, _, _, s5⟩); (first | (exfalso; omega) | exact Or.inr ⟨rfl, Or.inl ⟨s1, fsZ_of hml.1 s4⟩⟩)) | exact Or.inr ⟨rfl, Or.inl ⟨by omega, MP_stop hml.1 hq (by omega)⟩⟩ | exact Or.inr ⟨rfl, Or.inr ⟨by omega, (MQ_end hml.1 hq (by omega) (by omega)).1⟩⟩) (by first | (rcases hs with hs | hs <;> omega) | (rcases hq with ⟨-, b1, -⟩ | ⟨-, b1, -⟩ <;> omega))
            · refine y_iconst C dX6_goesWrong_96 ?_
              refine y_goto C 101 dX6_goesWrong_97 (by decide) ?_
              refine y_istore_n C [(2, .int (zI 1)), (0, .ref y), (1, .int (zI 0))] dX6_goesWrong_101 (by decide) rfl ?_
              refine y_goto C 12 dX6_goesWrong_102 (by decide) ?_
              refine y_lsub C [1, 2, 0] (lv' := [(0, .ref y), (1, .int (zI 0)), (2, .int (zI 1))]) rfl ?_
              exact ih12 1 sp2_32 wr2_33 tp2_6 bt2_7 lf2_8 rg2_9 dp2_10 (by omega) (by omega) (by first | (rcases hs with ⟨s1, s2, s3, s4, s5, s6⟩ | ⟨s1, s2, s3, s4⟩; (first | (exfalso; omega) | exact Or.inl ⟨rfl, s1, _, _, _, _, _, s5⟩); (first | (exfalso; omega) | exact Or.inr ⟨rfl, Or.inl ⟨s1, fsZ_of hml.1 s4⟩⟩)) | exact Or.inr ⟨rfl, Or.inl ⟨by omega, MP_stop hml.1 hq (by omega)⟩⟩ | exact Or.inr ⟨rfl, Or.inr ⟨by omega, (MQ_end hml.1 hq (by omega) (by omega)).1⟩⟩) (by first | (rcases hs with hs | hs <;> omega) | (rcases hq with ⟨-, b1, -⟩ | ⟨-, b1, -⟩ <;> omega))

set_option maxHeartbeats 4000000 in
set_option maxRecDepth 100000 in
theorem m_X6_goesWrong_1 {l : Launch} {D : va_G} {cA cB : ClassId} {y ms ma mp mk md me mo : Nat} {np ik ml sp wr tp bt lf rg dp : Int} {u cd : Int → Int} (hml : 0 ≤ ml ∧ ml ≤ 80) (hcd : ∀ k : Int, 0 ≤ k → k < 80 → 0 ≤ cd k ∧ cd k ≤ 126) (hfs : fsZ cd ml = -4) : MI l yX6_goesWrong cX6_goesWrong 3 .boolean { frames := 4, cells := 0, slots := 0, locals := 89 } D (zT cA cB) [.ref y, .int (zI 1)] [cO y 6 [.ref ms, .ref ma, .ref mp, .int (zI np), .ref mk, .int (zI ik), .ref md, .int (zI ml), .ref me, .ref mo, .int (zI sp), .int (zI wr), .int (zI tp), .int (zI bt), .int (zI lf), .int (zI rg), .int (zI dp)], cI cA ms 800 u, cI cA md 80 cd] (fun r w => ∃ (sp2 : Int), ∃ (wr2 : Int), ∃ (tp2 : Int), ∃ (bt2 : Int), ∃ (lf2 : Int), ∃ (rg2 : Int), ∃ (dp2 : Int), ∃ (u2 : Int → Int), w = [cO y 6 [.ref ms, .ref ma, .ref mp, .int (zI np), .ref mk, .int (zI ik), .ref md, .int (zI ml), .ref me, .ref mo, .int (zI sp2), .int (zI wr2), .int (zI tp2), .int (zI bt2), .int (zI lf2), .int (zI rg2), .int (zI dp2)], cI cA ms 800 u2, cI cA md 80 cd] ∧ (r = 0) ∧ (∀ j : Int, 0 ≤ j → j < 800 → u2 j = drZ cd u ml j) ∧ (0 ≤ sp2 ∧ sp2 ≤ ml) ∧ (wr2 = 0 ∨ wr2 = 1)) := by
  refine MI.of RX6 ⟨rfl, by decide +kernel⟩ (Or.inr rfl) (Nat.le_of_ble_eq_true rfl) (fun _ r w h => by obtain ⟨_, _, _, _, _, _, _, _, -, h⟩ := h; omega) ?_
  intro K C hret
  change K 0 0 _ [(0, .ref y), (1, .int (zI 1))] 0 []
  refine y_aload_n C 0 dX6_goesWrong_0 rfl ?_
  refine y_iconst C dX6_goesWrong_1 ?_
  refine y_put C fp_X6_106 0 [cO y 6 [.ref ms, .ref ma, .ref mp, .int (zI np), .ref mk, .int (zI ik), .ref md, .int (zI ml), .ref me, .ref mo, .int (zI 0), .int (zI wr), .int (zI tp), .int (zI bt), .int (zI lf), .int (zI rg), .int (zI dp)], cI cA ms 800 u, cI cA md 80 cd] dX6_goesWrong_2 rfl rfl rfl (by exact Nat.le_of_ble_eq_true rfl) rfl ?_
  refine y_aload_n C 0 dX6_goesWrong_5 rfl ?_
  refine y_iconst C dX6_goesWrong_6 ?_
  refine y_put C fp_X6_109 0 [cO y 6 [.ref ms, .ref ma, .ref mp, .int (zI np), .ref mk, .int (zI ik), .ref md, .int (zI ml), .ref me, .ref mo, .int (zI 0), .int (zI 0), .int (zI tp), .int (zI bt), .int (zI lf), .int (zI rg), .int (zI dp)], cI cA ms 800 u, cI cA md 80 cd] dX6_goesWrong_7 rfl (zbn (by omega)) (zbf (by omega)) (by exact Nat.le_of_ble_eq_true rfl) rfl ?_
  refine y_iconst C dX6_goesWrong_10 ?_
  refine y_istore_n C [(2, .int (zI 1)), (0, .ref y), (1, .int (zI 1))] dX6_goesWrong_11 (by decide) rfl ?_
  refine y_lsub C [1, 2, 0] (lv' := [(0, .ref y), (1, .int (zI 1)), (2, .int (zI 1))]) rfl ?_
  suffices hL12 : ∀ (fu : Nat) (more : Int) (u1 : Int → Int) (sp6 : Int) (wr6 : Int) (tp6 : Int) (bt6 : Int) (lf6 : Int) (rg6 : Int) (dp6 : Int), (0 ≤ sp6 ∧ sp6 ≤ ml) → (wr6 = 0) → ((more = 1 ∧ wr6 = 0 ∧ ∃ a1 a2 a3 a4 a5, rnZ cd sp6 = some (a1, a2, a3, a4, a5, 0)) ∨ (more = 0 ∧ sp6 = ml)) → (∀ j : Int, 0 ≤ j → j < 800 → u1 j = drZ cd u sp6 j) → ((ml - sp6) * 2 + more).toNat < fu → K 0 0 [cO y 6 [.ref ms, .ref ma, .ref mp, .int (zI np), .ref mk, .int (zI ik), .ref md, .int (zI ml), .ref me, .ref mo, .int (zI sp6), .int (zI wr6), .int (zI tp6), .int (zI bt6), .int (zI lf6), .int (zI rg6), .int (zI dp6)], cI cA ms 800 u1, cI cA md 80 cd] [(0, .ref y), (1, .int (zI 1)), (2, .int (zI more))] 12 [] from hL12 _ 1 u 0 0 tp bt lf rg dp (by omega) (by omega) (by exact Or.inl ⟨rfl, rfl, 0, 0, 0, 0, 0, rfl⟩) (by exact fun _ _ _ => rfl) (Nat.lt_succ_self _)
  intro f12
  induction f12 with
  | zero => exact fun _ _ _ _ _ _ _ _ _ _ _ _ _ hf => absurd hf (Nat.not_lt_zero _)
  | succ f12 ih12 =>
    intro more u1 sp6 wr6 tp6 bt6 lf6 rg6 dp6 hsp6 hwr6 hst hu1 hf12
    refine y_iload_n C 2 dX6_goesWrong_12 rfl ?_
    refine y_if_eq C 105 dX6_goesWrong_13 (by decide) ⟨by omega, by omega⟩ (fun c_1 => ?_) (fun c_1 => ?_)
    · refine y_aload_n C 0 dX6_goesWrong_105 rfl ?_
      refine y_get C fg_X6_109 0 dX6_goesWrong_106 rfl rfl ?_
      refine hret _ _ _ _ dX6_goesWrong_109 ⟨sp6, wr6, tp6, bt6, lf6, rg6, dp6, u1, rfl, ?_⟩
      show (wr6 = 0) ∧ (∀ j : Int, 0 ≤ j → j < 800 → u1 j = drZ cd u ml j) ∧ (0 ≤ sp6 ∧ sp6 ≤ ml) ∧ (wr6 = 0 ∨ wr6 = 1)
      obtain rfl : sp6 = ml := by omega
      exact ⟨by omega, hu1, by omega, by omega⟩
    · obtain ⟨g1, g2, a1, a2, a3, a4, a5, g3⟩ : more = 1 ∧ wr6 = 0 ∧ ∃ a1 a2 a3 a4 a5, rnZ cd sp6 = some (a1, a2, a3, a4, a5, 0) := by rcases hst with z | z; exact z; exfalso; omega
      have hmp : MP cd ml sp6 sp6 wr6 a1 a2 a3 a4 a5 0 := Or.inl ⟨g2, by omega, by omega, g3, fun _ => rfl⟩
      refine y_aload_n C 0 dX6_goesWrong_16 rfl ?_
      refine y_mcallv C (m_X6_shape (l := l) (D := D) (cA := cA) (cB := cB) (y := y) (ms := ms) (ma := ma) (mp := mp) (mk := mk) (md := md) (me := me) (mo := mo) (np := np) (ik := ik) (ml := ml) (sp := sp6) (wr := wr6) (tp := tp6) (bt := bt6) (lf := lf6) (rg := rg6) (dp := dp6) (cd := cd) (s0 := sp6) (z1 := a1) (z2 := a2) (z3 := a3) (z4 := a4) (z5 := a5) (by first | assumption | omega | exact ⟨by omega, by omega⟩) (by first | assumption | omega | exact ⟨by omega, by omega⟩) (by first | assumption | omega | exact ⟨by omega, by omega⟩) (by first | assumption | omega | exact ⟨by omega, by omega⟩) (by first | assumption | omega | exact ⟨by omega, by omega⟩) (by first | assumption | omega | exact ⟨by omega, by omega⟩)) lk_X6_144 [0, 2] [1] ⟨rfl, rfl, by decide, by decide, by decide⟩ (jb := 0) rfl rfl dX6_goesWrong_17 rfl rfl ⟨by exact Nat.le_of_ble_eq_true rfl, by exact Nat.le_of_ble_eq_true rfl, rfl, rfl, by exact Nat.le_of_ble_eq_true rfl, by exact Nat.le_of_ble_eq_true rfl, by exact Nat.le_of_ble_eq_true rfl⟩ (fun w_11 h_2 => ?_)
      obtain ⟨sp2_4, wr2_5, tp2_6, bt2_7, lf2_8, rg2_9, dp2_10, rfl, h_2⟩ := h_2
      refine ⟨[1, 0, 2], [cO y 6 [.ref ms, .ref ma, .ref mp, .int (zI np), .ref mk, .int (zI ik), .ref md, .int (zI ml), .ref me, .ref mo, .int (zI sp2_4), .int (zI wr2_5), .int (zI tp2_6), .int (zI bt2_7), .int (zI lf2_8), .int (zI rg2_9), .int (zI dp2_10)], cI cA ms 800 u1, cI cA md 80 cd], ⟨rfl, by decide⟩, ?_⟩
      have hq := (h_2).1
      have hq2 := (h_2).2.1
      have hq3 := (h_2).2.2.1
      have hq4 := (h_2).2.2.2
      have hok : wr2_5 = 0 := by rcases hq3 with z | z; exact z; (exfalso; have := MP_stop hml.1 hq z; omega)
      refine y_aload_n C 0 dX6_goesWrong_20 rfl ?_
      refine y_get C fg_X6_109 0 dX6_goesWrong_21 rfl rfl ?_
      refine y_if_ne C 55 dX6_goesWrong_24 (by decide) ⟨by omega, by omega⟩ (fun c_12 => False.elim (by omega)) (fun c_12 => ?_)
      refine y_iload_n C 1 dX6_goesWrong_27 rfl ?_
      refine y_if_eq C 55 dX6_goesWrong_28 (by decide) ⟨by omega, by omega⟩ (fun h => absurd h (by decide)) (fun _ => ?_)
      refine y_aload_n C 0 dX6_goesWrong_31 rfl ?_
      refine y_aload_n C 0 dX6_goesWrong_32 rfl ?_
      refine y_get C fg_X6_120 0 dX6_goesWrong_33 rfl rfl ?_
      refine y_aload_n C 0 dX6_goesWrong_36 rfl ?_
      refine y_get C fg_X6_135 0 dX6_goesWrong_37 rfl rfl ?_
      refine y_aload_n C 0 dX6_goesWrong_40 rfl ?_
      refine y_get C fg_X6_123 0 dX6_goesWrong_41 rfl rfl ?_
      refine y_aload_n C 0 dX6_goesWrong_44 rfl ?_
      refine y_get C fg_X6_138 0 dX6_goesWrong_45 rfl rfl ?_
      refine y_aload_n C 0 dX6_goesWrong_48 rfl ?_
      refine y_get C fg_X6_141 0 dX6_goesWrong_49 rfl rfl ?_
      refine y_mcallv C (m_X6_lays (l := l) (D := D) (cA := cA) (cB := cB) (y := y) (ms := ms) (ma := ma) (mp := mp) (mk := mk) (md := md) (me := me) (mo := mo) (np := np) (ik := ik) (ml := ml) (sp := sp2_4) (wr := wr2_5) (tp := tp2_6) (bt := bt2_7) (lf := lf2_8) (rg := rg2_9) (dp := dp2_10) (u := u1) (top := tp2_6) (left := lf2_8) (bottom := bt2_7) (right := rg2_9) (pl := dp2_10) (by first | assumption | omega | exact ⟨by omega, by omega⟩) (by first | assumption | omega | exact ⟨by omega, by omega⟩)) lk_X6_87 [0, 1] [2] ⟨rfl, rfl, by decide, by decide, by decide⟩ (jb := 0) rfl rfl dX6_goesWrong_52 rfl rfl ⟨by exact Nat.le_of_ble_eq_true rfl, by exact Nat.le_of_ble_eq_true rfl, rfl, rfl, by exact Nat.le_of_ble_eq_true rfl, by exact Nat.le_of_ble_eq_true rfl, by exact Nat.le_of_ble_eq_true rfl⟩ (fun w_17 h_14 => ?_)
      obtain ⟨u2_16, rfl, h_14⟩ := h_14
      refine ⟨[1, 2, 0], [cO y 6 [.ref ms, .ref ma, .ref mp, .int (zI np), .ref mk, .int (zI ik), .ref md, .int (zI ml), .ref me, .ref mo, .int (zI sp2_4), .int (zI wr2_5), .int (zI tp2_6), .int (zI bt2_7), .int (zI lf2_8), .int (zI rg2_9), .int (zI dp2_10)], cI cA ms 800 u2_16, cI cA md 80 cd], ⟨rfl, by decide⟩, ?_⟩
      have hl := h_14
      refine y_aload_n C 0 dX6_goesWrong_55 rfl ?_
      refine y_get C fg_X6_109 0 dX6_goesWrong_56 rfl rfl ?_
      refine y_if_ne C 77 dX6_goesWrong_59 (by decide) ⟨by omega, by omega⟩ (fun c_18 => False.elim (by omega)) (fun c_18 => ?_)
      refine y_aload_n C 0 dX6_goesWrong_62 rfl ?_
      refine y_get C fg_X6_106 0 dX6_goesWrong_63 rfl rfl ?_
      refine y_aload_n C 0 dX6_goesWrong_66 rfl ?_
      refine y_get C fg_X6_103 0 dX6_goesWrong_67 rfl rfl ?_
      refine y_icmp_ge C 77 dX6_goesWrong_70 (by decide) ⟨⟨by omega, by omega⟩, ⟨by omega, by omega⟩⟩ (fun c_19 => ?_) (fun c_19 => ?_)
      · refine y_iconst C dX6_goesWrong_77 ?_
        refine y_istore_n C [(2, .int (zI 0)), (0, .ref y), (1, .int (zI 1))] dX6_goesWrong_78 (by decide) rfl ?_
        refine y_iload_n C 0 dX6_goesWrong_79 rfl ?_
        refine y_if_eq C 12 dX6_goesWrong_80 (by decide) ⟨by omega, by omega⟩ (fun _ => ?_) (fun h => absurd h (by decide))
        refine y_lsub C [1, 2, 0] (lv' := [(0, .ref y), (1, .int (zI 1)), (2, .int (zI 0))]) rfl ?_
        exact ih12 0 u2_16 sp2_4 wr2_5 tp2_6 bt2_7 lf2_8 rg2_9 dp2_10 (by omega) (by omega) (by first | (rcases hs with ⟨s1, s2, s3, s4, s5, s6⟩ | ⟨s1, s2, s3, s4⟩; (first | (exfalso; omega) | exact Or.inl ⟨rfl, s1, _, _, _, _, _, s5⟩); (exfalso; omega)) | exact Or.inr ⟨rfl, (MQ_end hml.1 hq (by omega) (by omega)).2.1⟩) (by first | (rcases hs with ⟨s1, s2, s3, s4, s5, s6⟩ | ⟨s1, s2, s3, s4⟩; (exact fun j a b => by rw [hl j a b, s6 u]; exact layU_pt (hu1 j a b)); (exfalso; omega)) | exact fun j a b => by rw [hl j a b, (MQ_end hml.1 hq (by omega) (by omega)).2.1, (MQ_end hml.1 hq (by omega) (by omega)).2.2 u]; exact layU_pt (hu1 j a b)) (by first | (rcases hs with hs | hs <;> omega) | (rcases hq with ⟨-, b1, -⟩ | ⟨-, b1, -⟩ <;> omega))
      · refine y_iconst C dX6_goesWrong_73 ?_
        refine y_goto C 78 dX6_goesWrong_74 (by decide) ?_
        refine y_istore_n C [(2, .int (zI 1)), (0, .ref y), (1, .int (zI 1))] dX6_goesWrong_78 (by decide) rfl ?_
        refine y_iload_n C 0 dX6_goesWrong_79 rfl ?_
        refine y_if_eq C 12 dX6_goesWrong_80 (by decide) ⟨by omega, by omega⟩ (fun h => absurd h (by decide)) (fun _ => ?_)
        refine y_aload_n C 1 dX6_goesWrong_83 rfl ?_
        refine y_bipush C dX6_goesWrong_84 (by decide +kernel) ?_
        refine y_mcallv C (m_X6_wants (l := l) (D := D) (cA := cA) (cB := cB) (y := y) (ms := ms) (ma := ma) (mp := mp) (mk := mk) (md := md) (me := me) (mo := mo) (np := np) (ik := ik) (ml := ml) (sp := sp2_4) (wr := wr2_5) (tp := tp2_6) (bt := bt2_7) (lf := lf2_8) (rg := rg2_9) (dp := dp2_10) (cd := cd) (sg := 59) (by first | assumption | omega | exact ⟨by omega, by omega⟩) (by first | assumption | omega | exact ⟨by omega, by omega⟩) (by first | assumption | omega | exact ⟨by omega, by omega⟩) (by first | assumption | omega | exact ⟨by omega, by omega⟩) (by first | assumption | omega | exact ⟨by omega, by omega⟩)) lk_X6_129 [0, 2] [1] ⟨rfl, rfl, by decide, by decide, by decide⟩ (jb := 0) rfl rfl dX6_goesWrong_86 rfl rfl ⟨by exact Nat.le_of_ble_eq_true rfl, by exact Nat.le_of_ble_eq_true rfl, rfl, rfl, by exact Nat.le_of_ble_eq_true rfl, by exact Nat.le_of_ble_eq_true rfl, by exact Nat.le_of_ble_eq_true rfl⟩ (fun w_26 h_22 => ?_)
        obtain ⟨sp2_24, wr2_25, rfl, h_22⟩ := h_22
        refine ⟨[1, 0, 2], [cO y 6 [.ref ms, .ref ma, .ref mp, .int (zI np), .ref mk, .int (zI ik), .ref md, .int (zI ml), .ref me, .ref mo, .int (zI sp2_24), .int (zI wr2_25), .int (zI tp2_6), .int (zI bt2_7), .int (zI lf2_8), .int (zI rg2_9), .int (zI dp2_10)], cI cA ms 800 u2_16, cI cA md 80 cd], ⟨rfl, by decide⟩, ?_⟩
        have hs := MQ_semi (by omega) hq (by omega) (by omega) (h_22).1
        have hs2 := (h_22).2
        have hok2 : wr2_25 = 0 := by rcases hs with ⟨s1, s2, s3, s4, s5, s6⟩ | ⟨s1, s2, s3, s4⟩; exact s1; (exfalso; have := fsZ_of hml.1 s4; omega)
        refine y_aload_n C 1 dX6_goesWrong_89 rfl ?_
        refine y_get C fg_X6_109 0 dX6_goesWrong_90 rfl rfl ?_
        refine y_if_ne C 100 dX6_goesWrong_93 (by decide) ⟨by omega, by omega⟩ (fun c_27 => False.elim (by omega)) (fun c_27 => ?_)
        refine y_iconst C dX6_goesWrong_96 ?_
        refine y_goto C 101 dX6_goesWrong_97 (by decide) ?_
        refine y_istore_n C [(2, .int (zI 1)), (0, .ref y), (1, .int (zI 1))] dX6_goesWrong_101 (by decide) rfl ?_
        refine y_goto C 12 dX6_goesWrong_102 (by decide) ?_
        refine y_lsub C [1, 2, 0] (lv' := [(0, .ref y), (1, .int (zI 1)), (2, .int (zI 1))]) rfl ?_
        exact ih12 1 u2_16 sp2_24 wr2_25 tp2_6 bt2_7 lf2_8 rg2_9 dp2_10 (by omega) (by omega) (by first | (rcases hs with ⟨s1, s2, s3, s4, s5, s6⟩ | ⟨s1, s2, s3, s4⟩; (first | (exfalso; omega) | exact Or.inl ⟨rfl, s1, _, _, _, _, _, s5⟩); (exfalso; omega)) | exact Or.inr ⟨rfl, (MQ_end hml.1 hq (by omega) (by omega)).2.1⟩) (by first | (rcases hs with ⟨s1, s2, s3, s4, s5, s6⟩ | ⟨s1, s2, s3, s4⟩; (exact fun j a b => by rw [hl j a b, s6 u]; exact layU_pt (hu1 j a b)); (exfalso; omega)) | exact fun j a b => by rw [hl j a b, (MQ_end hml.1 hq (by omega) (by omega)).2.1, (MQ_end hml.1 hq (by omega) (by omega)).2.2 u]; exact layU_pt (hu1 j a b)) (by first | (rcases hs with hs | hs <;> omega) | (rcases hq with ⟨-, b1, -⟩ | ⟨-, b1, -⟩ <;> omega))

set_option maxHeartbeats 4000000 in
set_option maxRecDepth 100000 in
theorem m_X6_isNoStrip {l : Launch} {D : va_G} {cA cB : ClassId} {y ms ma mp mk md me mo : Nat} {np ik ml sp wr tp bt lf rg dp : Int} {cd : Int → Int} (hml : 0 ≤ ml ∧ ml ≤ 80) (hcd : ∀ k : Int, 0 ≤ k → k < 80 → 0 ≤ cd k ∧ cd k ≤ 126) : MI l yX6_isNoStrip cX6_isNoStrip 1 .boolean { frames := 1, cells := 0, slots := 0, locals := 22 } D (zT cA cB) [.ref y] [cO y 6 [.ref ms, .ref ma, .ref mp, .int (zI np), .ref mk, .int (zI ik), .ref md, .int (zI ml), .ref me, .ref mo, .int (zI sp), .int (zI wr), .int (zI tp), .int (zI bt), .int (zI lf), .int (zI rg), .int (zI dp)], cI cA md 80 cd] (fun r w => ∃ (sp2 : Int), ∃ (wr2 : Int), w = [cO y 6 [.ref ms, .ref ma, .ref mp, .int (zI np), .ref mk, .int (zI ik), .ref md, .int (zI ml), .ref me, .ref mo, .int (zI sp2), .int (zI wr2), .int (zI tp), .int (zI bt), .int (zI lf), .int (zI rg), .int (zI dp)], cI cA md 80 cd] ∧ ((r = 1 ∧ ftZ cd ml = sp2) ∨ (r = 0 ∧ ftZ cd ml = -4)) ∧ (0 ≤ sp2 ∧ sp2 ≤ ml) ∧ (wr2 = 0 ∨ wr2 = 1)) := by
  refine MI.of RX6 ⟨rfl, by decide +kernel⟩ (Or.inr rfl) (Nat.le_of_ble_eq_true rfl) (fun _ r w h => by obtain ⟨_, _, -, h⟩ := h; omega) ?_
  intro K C hret
  change K 0 0 _ [(0, .ref y)] 0 []
  refine y_aload_n C 0 dX6_isNoStrip_0 rfl ?_
  refine y_iconst C dX6_isNoStrip_1 ?_
  refine y_put C fp_X6_106 0 [cO y 6 [.ref ms, .ref ma, .ref mp, .int (zI np), .ref mk, .int (zI ik), .ref md, .int (zI ml), .ref me, .ref mo, .int (zI 0), .int (zI wr), .int (zI tp), .int (zI bt), .int (zI lf), .int (zI rg), .int (zI dp)], cI cA md 80 cd] dX6_isNoStrip_2 rfl rfl rfl (by exact Nat.le_of_ble_eq_true rfl) rfl ?_
  refine y_aload_n C 0 dX6_isNoStrip_5 rfl ?_
  refine y_aload_n C 0 dX6_isNoStrip_6 rfl ?_
  refine y_get C fg_X6_103 0 dX6_isNoStrip_7 rfl rfl ?_
  refine y_if_ne C 17 dX6_isNoStrip_10 (by decide) ⟨by omega, by omega⟩ (fun c_1 => ?_) (fun c_1 => ?_)
  · refine y_iconst C dX6_isNoStrip_17 ?_
    refine y_put C fp_X6_109 0 [cO y 6 [.ref ms, .ref ma, .ref mp, .int (zI np), .ref mk, .int (zI ik), .ref md, .int (zI ml), .ref me, .ref mo, .int (zI 0), .int (zI 0), .int (zI tp), .int (zI bt), .int (zI lf), .int (zI rg), .int (zI dp)], cI cA md 80 cd] dX6_isNoStrip_18 rfl (zbn (by omega)) (zbf (by omega)) (by exact Nat.le_of_ble_eq_true rfl) rfl ?_
    suffices hL21 : ∀ (fu : Nat) (sp6 : Int) (wr6 : Int), (0 ≤ sp6 ∧ sp6 ≤ ml ∧ sp6 ≤ 24) → (wr6 = 0 ∨ wr6 = 1) → (∀ j : Int, 0 ≤ j → j < sp6 → okD cd j) → ((wr6 = 0 ∧ 0 < ml) ∨ (wr6 = 1 ∧ ((ml = 0 ∧ sp6 = 0) ∨ (sp6 < ml ∧ ¬ okD cd sp6)))) → ((ml - sp6) * 2 + 1 - wr6).toNat < fu → K 0 0 [cO y 6 [.ref ms, .ref ma, .ref mp, .int (zI np), .ref mk, .int (zI ik), .ref md, .int (zI ml), .ref me, .ref mo, .int (zI sp6), .int (zI wr6), .int (zI tp), .int (zI bt), .int (zI lf), .int (zI rg), .int (zI dp)], cI cA md 80 cd] [(0, .ref y)] 21 [] from hL21 _ 0 0 (by omega) (by omega) (by intro j a b; omega) (by omega) (Nat.lt_succ_self _)
    intro f21
    induction f21 with
    | zero => exact fun _ _ _ _ _ _ hf => absurd hf (Nat.not_lt_zero _)
    | succ f21 ih21 =>
      intro sp6 wr6 hsp6 hwr6 hok hst hf21
      refine y_aload_n C 0 dX6_isNoStrip_21 rfl ?_
      refine y_get C fg_X6_109 0 dX6_isNoStrip_22 rfl rfl ?_
      refine y_if_ne C 100 dX6_isNoStrip_25 (by decide) ⟨by omega, by omega⟩ (fun c_2 => ?_) (fun c_2 => ?_)
      · refine y_aload_n C 0 dX6_isNoStrip_100 rfl ?_
        refine y_get C fg_X6_109 0 dX6_isNoStrip_101 rfl rfl ?_
        refine hret _ _ _ _ dX6_isNoStrip_104 ⟨sp6, wr6, rfl, ?_⟩
        show ((wr6 = 1 ∧ ftZ cd ml = sp6) ∨ (wr6 = 0 ∧ ftZ cd ml = -4)) ∧ (0 ≤ sp6 ∧ sp6 ≤ ml) ∧ (wr6 = 0 ∨ wr6 = 1)
        refine ⟨?_, by omega, hwr6⟩
        rcases hst with ⟨h1, h2⟩ | ⟨h1, ⟨h2, h3⟩ | ⟨h2, h3⟩⟩
        · first | (exfalso; omega) | exact Or.inr ⟨h1, ftZ_of (Or.inr ⟨fun j a b => hok j a (by omega), Or.inl ⟨h2, rfl⟩⟩)⟩
        · exact Or.inl ⟨h1, ftZ_of (Or.inr ⟨fun j a b => by omega, Or.inr ⟨by omega, by omega⟩⟩)⟩
        · exact Or.inl ⟨h1, ftZ_of (Or.inl ⟨by omega, h2, h3, hok⟩)⟩
      · refine y_aload_n C 0 dX6_isNoStrip_28 rfl ?_
        refine y_get C fg_X6_106 0 dX6_isNoStrip_29 rfl rfl ?_
        refine y_aload_n C 0 dX6_isNoStrip_32 rfl ?_
        refine y_get C fg_X6_103 0 dX6_isNoStrip_33 rfl rfl ?_
        refine y_icmp_ge C 100 dX6_isNoStrip_36 (by decide) ⟨⟨by omega, by omega⟩, ⟨by omega, by omega⟩⟩ (fun c_3 => ?_) (fun c_3 => ?_)
        · refine y_aload_n C 0 dX6_isNoStrip_100 rfl ?_
          refine y_get C fg_X6_109 0 dX6_isNoStrip_101 rfl rfl ?_
          refine hret _ _ _ _ dX6_isNoStrip_104 ⟨sp6, wr6, rfl, ?_⟩
          show ((wr6 = 1 ∧ ftZ cd ml = sp6) ∨ (wr6 = 0 ∧ ftZ cd ml = -4)) ∧ (0 ≤ sp6 ∧ sp6 ≤ ml) ∧ (wr6 = 0 ∨ wr6 = 1)
          refine ⟨?_, by omega, hwr6⟩
          rcases hst with ⟨h1, h2⟩ | ⟨h1, ⟨h2, h3⟩ | ⟨h2, h3⟩⟩
          · first | (exfalso; omega) | exact Or.inr ⟨h1, ftZ_of (Or.inr ⟨fun j a b => hok j a (by omega), Or.inl ⟨h2, rfl⟩⟩)⟩
          · exact Or.inl ⟨h1, ftZ_of (Or.inr ⟨fun j a b => by omega, Or.inr ⟨by omega, by omega⟩⟩)⟩
          · exact Or.inl ⟨h1, ftZ_of (Or.inl ⟨by omega, h2, h3, hok⟩)⟩
        · refine y_aload_n C 0 dX6_isNoStrip_39 rfl ?_
          refine y_aload_n C 0 dX6_isNoStrip_40 rfl ?_
          refine y_get C fg_X6_106 0 dX6_isNoStrip_41 rfl rfl ?_
          refine y_bipush C dX6_isNoStrip_44 (by decide +kernel) ?_
          refine y_icmp_eq C 68 dX6_isNoStrip_46 (by decide) ⟨⟨by omega, by omega⟩, ⟨by omega, by omega⟩⟩ (fun c_4 => ?_) (fun c_4 => ?_)
          · refine y_iconst C dX6_isNoStrip_68 ?_
            refine y_goto C 73 dX6_isNoStrip_69 (by decide) ?_
            refine y_put C fp_X6_109 0 [cO y 6 [.ref ms, .ref ma, .ref mp, .int (zI np), .ref mk, .int (zI ik), .ref md, .int (zI ml), .ref me, .ref mo, .int (zI sp6), .int (zI 1), .int (zI tp), .int (zI bt), .int (zI lf), .int (zI rg), .int (zI dp)], cI cA md 80 cd] dX6_isNoStrip_73 rfl (zbn (by omega)) (zbf (by omega)) (by exact Nat.le_of_ble_eq_true rfl) rfl ?_
            refine y_aload_n C 0 dX6_isNoStrip_76 rfl ?_
            refine y_dup C dX6_isNoStrip_77 rfl ?_
            refine y_get C fg_X6_106 0 dX6_isNoStrip_78 rfl rfl ?_
            refine y_aload_n C 0 dX6_isNoStrip_81 rfl ?_
            refine y_get C fg_X6_109 0 dX6_isNoStrip_82 rfl rfl ?_
            refine y_if_eq C 92 dX6_isNoStrip_85 (by decide) ⟨by omega, by omega⟩ (fun h => absurd h (by decide)) (fun _ => ?_)
            refine y_iconst C dX6_isNoStrip_88 ?_
            refine y_goto C 93 dX6_isNoStrip_89 (by decide) ?_
            refine y_iadd C dX6_isNoStrip_93 ?_
            refine y_put C fp_X6_106 0 [cO y 6 [.ref ms, .ref ma, .ref mp, .int (zI np), .ref mk, .int (zI ik), .ref md, .int (zI ml), .ref me, .ref mo, .int (zI (sp6 + 0)), .int (zI 1), .int (zI tp), .int (zI bt), .int (zI lf), .int (zI rg), .int (zI dp)], cI cA md 80 cd] dX6_isNoStrip_94 rfl rfl rfl (by exact Nat.le_of_ble_eq_true rfl) rfl ?_
            refine y_goto C 21 dX6_isNoStrip_97 (by decide) ?_
            exact ih21 (sp6 + 0) 1 (by omega) (by omega) (by first | exact hok | (intro j a b; exact (show j < sp6 ∨ j = sp6 from by omega).elim (fun e => hok j a e) (fun e => by subst e; unfold okD; omega)) | (intro j a b; exact hok j a (by omega))) (by first | (exact Or.inl ⟨rfl, by omega⟩) | (refine Or.inr ⟨rfl, Or.inr ⟨by omega, fun z => ?_⟩⟩; first | (rw [Int.add_zero] at z; unfold okD at z; omega) | (unfold okD at z; omega))) (by omega)
          · refine y_aload_n C 0 dX6_isNoStrip_49 rfl ?_
            refine y_get C fg_X6_22 0 dX6_isNoStrip_50 rfl rfl ?_
            refine y_aload_n C 0 dX6_isNoStrip_53 rfl ?_
            refine y_get C fg_X6_106 0 dX6_isNoStrip_54 rfl rfl ?_
            refine y_iald C 1 0 dX6_isNoStrip_57 rfl rfl ⟨by omega, by omega, by omega⟩ ?_
            have g_6 := hcd sp6 (by omega) (by omega)
            refine y_bipush C dX6_isNoStrip_58 (by decide +kernel) ?_
            refine y_bipush C dX6_isNoStrip_60 (by decide +kernel) ?_
            refine y_pcalls C (m_X6_in (l := l) (D := D) (cA := cA) (cB := cB) (vv := cd sp6) (lo := 48) (hi := 55) (by first | assumption | exact ⟨by omega, by omega⟩) (by first | assumption | exact ⟨by omega, by omega⟩) (by first | assumption | exact ⟨by omega, by omega⟩)) lk_X6_31 [] [0, 1] [0, 1] ⟨rfl, rfl, by decide, by decide, by decide⟩ ⟨rfl, by decide⟩ dX6_isNoStrip_62 rfl rfl ⟨by exact Nat.le_of_ble_eq_true rfl, by exact Nat.le_of_ble_eq_true rfl, rfl, rfl, by exact Nat.le_of_ble_eq_true rfl, by exact Nat.le_of_ble_eq_true rfl, by exact Nat.le_of_ble_eq_true rfl⟩ (fun r_8 h_7 => ?_)
            have hk := h_7
            refine y_if_ne C 72 dX6_isNoStrip_65 (by decide) ⟨by omega, by omega⟩ (fun c_9 => ?_) (fun c_9 => ?_)
            · refine y_iconst C dX6_isNoStrip_72 ?_
              refine y_put C fp_X6_109 0 [cO y 6 [.ref ms, .ref ma, .ref mp, .int (zI np), .ref mk, .int (zI ik), .ref md, .int (zI ml), .ref me, .ref mo, .int (zI sp6), .int (zI 0), .int (zI tp), .int (zI bt), .int (zI lf), .int (zI rg), .int (zI dp)], cI cA md 80 cd] dX6_isNoStrip_73 rfl (zbn (by omega)) (zbf (by omega)) (by exact Nat.le_of_ble_eq_true rfl) rfl ?_
              refine y_aload_n C 0 dX6_isNoStrip_76 rfl ?_
              refine y_dup C dX6_isNoStrip_77 rfl ?_
              refine y_get C fg_X6_106 0 dX6_isNoStrip_78 rfl rfl ?_
              refine y_aload_n C 0 dX6_isNoStrip_81 rfl ?_
              refine y_get C fg_X6_109 0 dX6_isNoStrip_82 rfl rfl ?_
              refine y_if_eq C 92 dX6_isNoStrip_85 (by decide) ⟨by omega, by omega⟩ (fun _ => ?_) (fun h => absurd h (by decide))
              refine y_iconst C dX6_isNoStrip_92 ?_
              refine y_iadd C dX6_isNoStrip_93 ?_
              refine y_put C fp_X6_106 0 [cO y 6 [.ref ms, .ref ma, .ref mp, .int (zI np), .ref mk, .int (zI ik), .ref md, .int (zI ml), .ref me, .ref mo, .int (zI (sp6 + 1)), .int (zI 0), .int (zI tp), .int (zI bt), .int (zI lf), .int (zI rg), .int (zI dp)], cI cA md 80 cd] dX6_isNoStrip_94 rfl rfl rfl (by exact Nat.le_of_ble_eq_true rfl) rfl ?_
              refine y_goto C 21 dX6_isNoStrip_97 (by decide) ?_
              exact ih21 (sp6 + 1) 0 (by omega) (by omega) (by first | exact hok | (intro j a b; exact (show j < sp6 ∨ j = sp6 from by omega).elim (fun e => hok j a e) (fun e => by subst e; unfold okD; omega)) | (intro j a b; exact hok j a (by omega))) (by first | (exact Or.inl ⟨rfl, by omega⟩) | (refine Or.inr ⟨rfl, Or.inr ⟨by omega, fun z => ?_⟩⟩; first | (rw [Int.add_zero] at z; unfold okD at z; omega) | (unfold okD at z; omega))) (by omega)
            · refine y_iconst C dX6_isNoStrip_68 ?_
              refine y_goto C 73 dX6_isNoStrip_69 (by decide) ?_
              refine y_put C fp_X6_109 0 [cO y 6 [.ref ms, .ref ma, .ref mp, .int (zI np), .ref mk, .int (zI ik), .ref md, .int (zI ml), .ref me, .ref mo, .int (zI sp6), .int (zI 1), .int (zI tp), .int (zI bt), .int (zI lf), .int (zI rg), .int (zI dp)], cI cA md 80 cd] dX6_isNoStrip_73 rfl (zbn (by omega)) (zbf (by omega)) (by exact Nat.le_of_ble_eq_true rfl) rfl ?_
              refine y_aload_n C 0 dX6_isNoStrip_76 rfl ?_
              refine y_dup C dX6_isNoStrip_77 rfl ?_
              refine y_get C fg_X6_106 0 dX6_isNoStrip_78 rfl rfl ?_
              refine y_aload_n C 0 dX6_isNoStrip_81 rfl ?_
              refine y_get C fg_X6_109 0 dX6_isNoStrip_82 rfl rfl ?_
              refine y_if_eq C 92 dX6_isNoStrip_85 (by decide) ⟨by omega, by omega⟩ (fun h => absurd h (by decide)) (fun _ => ?_)
              refine y_iconst C dX6_isNoStrip_88 ?_
              refine y_goto C 93 dX6_isNoStrip_89 (by decide) ?_
              refine y_iadd C dX6_isNoStrip_93 ?_
              refine y_put C fp_X6_106 0 [cO y 6 [.ref ms, .ref ma, .ref mp, .int (zI np), .ref mk, .int (zI ik), .ref md, .int (zI ml), .ref me, .ref mo, .int (zI (sp6 + 0)), .int (zI 1), .int (zI tp), .int (zI bt), .int (zI lf), .int (zI rg), .int (zI dp)], cI cA md 80 cd] dX6_isNoStrip_94 rfl rfl rfl (by exact Nat.le_of_ble_eq_true rfl) rfl ?_
              refine y_goto C 21 dX6_isNoStrip_97 (by decide) ?_
              exact ih21 (sp6 + 0) 1 (by omega) (by omega) (by first | exact hok | (intro j a b; exact (show j < sp6 ∨ j = sp6 from by omega).elim (fun e => hok j a e) (fun e => by subst e; unfold okD; omega)) | (intro j a b; exact hok j a (by omega))) (by first | (exact Or.inl ⟨rfl, by omega⟩) | (refine Or.inr ⟨rfl, Or.inr ⟨by omega, fun z => ?_⟩⟩; first | (rw [Int.add_zero] at z; unfold okD at z; omega) | (unfold okD at z; omega))) (by omega)
  · refine y_iconst C dX6_isNoStrip_13 ?_
    refine y_goto C 18 dX6_isNoStrip_14 (by decide) ?_
    refine y_put C fp_X6_109 0 [cO y 6 [.ref ms, .ref ma, .ref mp, .int (zI np), .ref mk, .int (zI ik), .ref md, .int (zI ml), .ref me, .ref mo, .int (zI 0), .int (zI 1), .int (zI tp), .int (zI bt), .int (zI lf), .int (zI rg), .int (zI dp)], cI cA md 80 cd] dX6_isNoStrip_18 rfl (zbn (by omega)) (zbf (by omega)) (by exact Nat.le_of_ble_eq_true rfl) rfl ?_
    suffices hL21 : ∀ (fu : Nat) (sp6 : Int) (wr6 : Int), (0 ≤ sp6 ∧ sp6 ≤ ml ∧ sp6 ≤ 24) → (wr6 = 0 ∨ wr6 = 1) → (∀ j : Int, 0 ≤ j → j < sp6 → okD cd j) → ((wr6 = 0 ∧ 0 < ml) ∨ (wr6 = 1 ∧ ((ml = 0 ∧ sp6 = 0) ∨ (sp6 < ml ∧ ¬ okD cd sp6)))) → ((ml - sp6) * 2 + 1 - wr6).toNat < fu → K 0 0 [cO y 6 [.ref ms, .ref ma, .ref mp, .int (zI np), .ref mk, .int (zI ik), .ref md, .int (zI ml), .ref me, .ref mo, .int (zI sp6), .int (zI wr6), .int (zI tp), .int (zI bt), .int (zI lf), .int (zI rg), .int (zI dp)], cI cA md 80 cd] [(0, .ref y)] 21 [] from hL21 _ 0 1 (by omega) (by omega) (by intro j a b; omega) (by omega) (Nat.lt_succ_self _)
    intro f21
    induction f21 with
    | zero => exact fun _ _ _ _ _ _ hf => absurd hf (Nat.not_lt_zero _)
    | succ f21 ih21 =>
      intro sp6 wr6 hsp6 hwr6 hok hst hf21
      refine y_aload_n C 0 dX6_isNoStrip_21 rfl ?_
      refine y_get C fg_X6_109 0 dX6_isNoStrip_22 rfl rfl ?_
      refine y_if_ne C 100 dX6_isNoStrip_25 (by decide) ⟨by omega, by omega⟩ (fun c_12 => ?_) (fun c_12 => ?_)
      · refine y_aload_n C 0 dX6_isNoStrip_100 rfl ?_
        refine y_get C fg_X6_109 0 dX6_isNoStrip_101 rfl rfl ?_
        refine hret _ _ _ _ dX6_isNoStrip_104 ⟨sp6, wr6, rfl, ?_⟩
        show ((wr6 = 1 ∧ ftZ cd ml = sp6) ∨ (wr6 = 0 ∧ ftZ cd ml = -4)) ∧ (0 ≤ sp6 ∧ sp6 ≤ ml) ∧ (wr6 = 0 ∨ wr6 = 1)
        refine ⟨?_, by omega, hwr6⟩
        rcases hst with ⟨h1, h2⟩ | ⟨h1, ⟨h2, h3⟩ | ⟨h2, h3⟩⟩
        · first | (exfalso; omega) | exact Or.inr ⟨h1, ftZ_of (Or.inr ⟨fun j a b => hok j a (by omega), Or.inl ⟨h2, rfl⟩⟩)⟩
        · exact Or.inl ⟨h1, ftZ_of (Or.inr ⟨fun j a b => by omega, Or.inr ⟨by omega, by omega⟩⟩)⟩
        · exact Or.inl ⟨h1, ftZ_of (Or.inl ⟨by omega, h2, h3, hok⟩)⟩
      · refine y_aload_n C 0 dX6_isNoStrip_28 rfl ?_
        refine y_get C fg_X6_106 0 dX6_isNoStrip_29 rfl rfl ?_
        refine y_aload_n C 0 dX6_isNoStrip_32 rfl ?_
        refine y_get C fg_X6_103 0 dX6_isNoStrip_33 rfl rfl ?_
        refine y_icmp_ge C 100 dX6_isNoStrip_36 (by decide) ⟨⟨by omega, by omega⟩, ⟨by omega, by omega⟩⟩ (fun c_13 => ?_) (fun c_13 => ?_)
        · refine y_aload_n C 0 dX6_isNoStrip_100 rfl ?_
          refine y_get C fg_X6_109 0 dX6_isNoStrip_101 rfl rfl ?_
          refine hret _ _ _ _ dX6_isNoStrip_104 ⟨sp6, wr6, rfl, ?_⟩
          show ((wr6 = 1 ∧ ftZ cd ml = sp6) ∨ (wr6 = 0 ∧ ftZ cd ml = -4)) ∧ (0 ≤ sp6 ∧ sp6 ≤ ml) ∧ (wr6 = 0 ∨ wr6 = 1)
          refine ⟨?_, by omega, hwr6⟩
          rcases hst with ⟨h1, h2⟩ | ⟨h1, ⟨h2, h3⟩ | ⟨h2, h3⟩⟩
          · first | (exfalso; omega) | exact Or.inr ⟨h1, ftZ_of (Or.inr ⟨fun j a b => hok j a (by omega), Or.inl ⟨h2, rfl⟩⟩)⟩
          · exact Or.inl ⟨h1, ftZ_of (Or.inr ⟨fun j a b => by omega, Or.inr ⟨by omega, by omega⟩⟩)⟩
          · exact Or.inl ⟨h1, ftZ_of (Or.inl ⟨by omega, h2, h3, hok⟩)⟩
        · refine y_aload_n C 0 dX6_isNoStrip_39 rfl ?_
          refine y_aload_n C 0 dX6_isNoStrip_40 rfl ?_
          refine y_get C fg_X6_106 0 dX6_isNoStrip_41 rfl rfl ?_
          refine y_bipush C dX6_isNoStrip_44 (by decide +kernel) ?_
          refine y_icmp_eq C 68 dX6_isNoStrip_46 (by decide) ⟨⟨by omega, by omega⟩, ⟨by omega, by omega⟩⟩ (fun c_14 => ?_) (fun c_14 => ?_)
          · refine y_iconst C dX6_isNoStrip_68 ?_
            refine y_goto C 73 dX6_isNoStrip_69 (by decide) ?_
            refine y_put C fp_X6_109 0 [cO y 6 [.ref ms, .ref ma, .ref mp, .int (zI np), .ref mk, .int (zI ik), .ref md, .int (zI ml), .ref me, .ref mo, .int (zI sp6), .int (zI 1), .int (zI tp), .int (zI bt), .int (zI lf), .int (zI rg), .int (zI dp)], cI cA md 80 cd] dX6_isNoStrip_73 rfl (zbn (by omega)) (zbf (by omega)) (by exact Nat.le_of_ble_eq_true rfl) rfl ?_
            refine y_aload_n C 0 dX6_isNoStrip_76 rfl ?_
            refine y_dup C dX6_isNoStrip_77 rfl ?_
            refine y_get C fg_X6_106 0 dX6_isNoStrip_78 rfl rfl ?_
            refine y_aload_n C 0 dX6_isNoStrip_81 rfl ?_
            refine y_get C fg_X6_109 0 dX6_isNoStrip_82 rfl rfl ?_
            refine y_if_eq C 92 dX6_isNoStrip_85 (by decide) ⟨by omega, by omega⟩ (fun h => absurd h (by decide)) (fun _ => ?_)
            refine y_iconst C dX6_isNoStrip_88 ?_
            refine y_goto C 93 dX6_isNoStrip_89 (by decide) ?_
            refine y_iadd C dX6_isNoStrip_93 ?_
            refine y_put C fp_X6_106 0 [cO y 6 [.ref ms, .ref ma, .ref mp, .int (zI np), .ref mk, .int (zI ik), .ref md, .int (zI ml), .ref me, .ref mo, .int (zI (sp6 + 0)), .int (zI 1), .int (zI tp), .int (zI bt), .int (zI lf), .int (zI rg), .int (zI dp)], cI cA md 80 cd] dX6_isNoStrip_94 rfl rfl rfl (by exact Nat.le_of_ble_eq_true rfl) rfl ?_
            refine y_goto C 21 dX6_isNoStrip_97 (by decide) ?_
            exact ih21 (sp6 + 0) 1 (by omega) (by omega) (by first | exact hok | (intro j a b; exact (show j < sp6 ∨ j = sp6 from by omega).elim (fun e => hok j a e) (fun e => by subst e; unfold okD; omega)) | (intro j a b; exact hok j a (by omega))) (by first | (exact Or.inl ⟨rfl, by omega⟩) | (refine Or.inr ⟨rfl, Or.inr ⟨by omega, fun z => ?_⟩⟩; first | (rw [Int.add_zero] at z; unfold okD at z; omega) | (unfold okD at z; omega))) (by omega)
          · refine y_aload_n C 0 dX6_isNoStrip_49 rfl ?_
            refine y_get C fg_X6_22 0 dX6_isNoStrip_50 rfl rfl ?_
            refine y_aload_n C 0 dX6_isNoStrip_53 rfl ?_
            refine y_get C fg_X6_106 0 dX6_isNoStrip_54 rfl rfl ?_
            refine y_iald C 1 0 dX6_isNoStrip_57 rfl rfl ⟨by omega, by omega, by omega⟩ ?_
            have g_16 := hcd sp6 (by omega) (by omega)
            refine y_bipush C dX6_isNoStrip_58 (by decide +kernel) ?_
            refine y_bipush C dX6_isNoStrip_60 (by decide +kernel) ?_
            refine y_pcalls C (m_X6_in (l := l) (D := D) (cA := cA) (cB := cB) (vv := cd sp6) (lo := 48) (hi := 55) (by first | assumption | exact ⟨by omega, by omega⟩) (by first | assumption | exact ⟨by omega, by omega⟩) (by first | assumption | exact ⟨by omega, by omega⟩)) lk_X6_31 [] [0, 1] [0, 1] ⟨rfl, rfl, by decide, by decide, by decide⟩ ⟨rfl, by decide⟩ dX6_isNoStrip_62 rfl rfl ⟨by exact Nat.le_of_ble_eq_true rfl, by exact Nat.le_of_ble_eq_true rfl, rfl, rfl, by exact Nat.le_of_ble_eq_true rfl, by exact Nat.le_of_ble_eq_true rfl, by exact Nat.le_of_ble_eq_true rfl⟩ (fun r_18 h_17 => ?_)
            have hk := h_17
            refine y_if_ne C 72 dX6_isNoStrip_65 (by decide) ⟨by omega, by omega⟩ (fun c_19 => ?_) (fun c_19 => ?_)
            · refine y_iconst C dX6_isNoStrip_72 ?_
              refine y_put C fp_X6_109 0 [cO y 6 [.ref ms, .ref ma, .ref mp, .int (zI np), .ref mk, .int (zI ik), .ref md, .int (zI ml), .ref me, .ref mo, .int (zI sp6), .int (zI 0), .int (zI tp), .int (zI bt), .int (zI lf), .int (zI rg), .int (zI dp)], cI cA md 80 cd] dX6_isNoStrip_73 rfl (zbn (by omega)) (zbf (by omega)) (by exact Nat.le_of_ble_eq_true rfl) rfl ?_
              refine y_aload_n C 0 dX6_isNoStrip_76 rfl ?_
              refine y_dup C dX6_isNoStrip_77 rfl ?_
              refine y_get C fg_X6_106 0 dX6_isNoStrip_78 rfl rfl ?_
              refine y_aload_n C 0 dX6_isNoStrip_81 rfl ?_
              refine y_get C fg_X6_109 0 dX6_isNoStrip_82 rfl rfl ?_
              refine y_if_eq C 92 dX6_isNoStrip_85 (by decide) ⟨by omega, by omega⟩ (fun _ => ?_) (fun h => absurd h (by decide))
              refine y_iconst C dX6_isNoStrip_92 ?_
              refine y_iadd C dX6_isNoStrip_93 ?_
              refine y_put C fp_X6_106 0 [cO y 6 [.ref ms, .ref ma, .ref mp, .int (zI np), .ref mk, .int (zI ik), .ref md, .int (zI ml), .ref me, .ref mo, .int (zI (sp6 + 1)), .int (zI 0), .int (zI tp), .int (zI bt), .int (zI lf), .int (zI rg), .int (zI dp)], cI cA md 80 cd] dX6_isNoStrip_94 rfl rfl rfl (by exact Nat.le_of_ble_eq_true rfl) rfl ?_
              refine y_goto C 21 dX6_isNoStrip_97 (by decide) ?_
              exact ih21 (sp6 + 1) 0 (by omega) (by omega) (by first | exact hok | (intro j a b; exact (show j < sp6 ∨ j = sp6 from by omega).elim (fun e => hok j a e) (fun e => by subst e; unfold okD; omega)) | (intro j a b; exact hok j a (by omega))) (by first | (exact Or.inl ⟨rfl, by omega⟩) | (refine Or.inr ⟨rfl, Or.inr ⟨by omega, fun z => ?_⟩⟩; first | (rw [Int.add_zero] at z; unfold okD at z; omega) | (unfold okD at z; omega))) (by omega)
            · refine y_iconst C dX6_isNoStrip_68 ?_
              refine y_goto C 73 dX6_isNoStrip_69 (by decide) ?_
              refine y_put C fp_X6_109 0 [cO y 6 [.ref ms, .ref ma, .ref mp, .int (zI np), .ref mk, .int (zI ik), .ref md, .int (zI ml), .ref me, .ref mo, .int (zI sp6), .int (zI 1), .int (zI tp), .int (zI bt), .int (zI lf), .int (zI rg), .int (zI dp)], cI cA md 80 cd] dX6_isNoStrip_73 rfl (zbn (by omega)) (zbf (by omega)) (by exact Nat.le_of_ble_eq_true rfl) rfl ?_
              refine y_aload_n C 0 dX6_isNoStrip_76 rfl ?_
              refine y_dup C dX6_isNoStrip_77 rfl ?_
              refine y_get C fg_X6_106 0 dX6_isNoStrip_78 rfl rfl ?_
              refine y_aload_n C 0 dX6_isNoStrip_81 rfl ?_
              refine y_get C fg_X6_109 0 dX6_isNoStrip_82 rfl rfl ?_
              refine y_if_eq C 92 dX6_isNoStrip_85 (by decide) ⟨by omega, by omega⟩ (fun h => absurd h (by decide)) (fun _ => ?_)
              refine y_iconst C dX6_isNoStrip_88 ?_
              refine y_goto C 93 dX6_isNoStrip_89 (by decide) ?_
              refine y_iadd C dX6_isNoStrip_93 ?_
              refine y_put C fp_X6_106 0 [cO y 6 [.ref ms, .ref ma, .ref mp, .int (zI np), .ref mk, .int (zI ik), .ref md, .int (zI ml), .ref me, .ref mo, .int (zI (sp6 + 0)), .int (zI 1), .int (zI tp), .int (zI bt), .int (zI lf), .int (zI rg), .int (zI dp)], cI cA md 80 cd] dX6_isNoStrip_94 rfl rfl rfl (by exact Nat.le_of_ble_eq_true rfl) rfl ?_
              refine y_goto C 21 dX6_isNoStrip_97 (by decide) ?_
              exact ih21 (sp6 + 0) 1 (by omega) (by omega) (by first | exact hok | (intro j a b; exact (show j < sp6 ∨ j = sp6 from by omega).elim (fun e => hok j a e) (fun e => by subst e; unfold okD; omega)) | (intro j a b; exact hok j a (by omega))) (by first | (exact Or.inl ⟨rfl, by omega⟩) | (refine Or.inr ⟨rfl, Or.inr ⟨by omega, fun z => ?_⟩⟩; first | (rw [Int.add_zero] at z; unfold okD at z; omega) | (unfold okD at z; omega))) (by omega)

set_option maxHeartbeats 4000000 in
set_option maxRecDepth 100000 in
theorem m_X6_fault {l : Launch} {D : va_G} {cA cB : ClassId} {y ms ma mp mk md me mo : Nat} {np ik ml sp wr tp bt lf rg dp : Int} {cd : Int → Int} {way : Int} (hzway : zR way) (hml : 0 ≤ ml ∧ ml ≤ 80) (hcd : ∀ k : Int, 0 ≤ k → k < 80 → 0 ≤ cd k ∧ cd k ≤ 126) : MI l yX6_fault cX6_fault 3 .int { frames := 5, cells := 0, slots := 0, locals := 111 } D (zT cA cB) [.ref y, .int (zI way)] [cO y 6 [.ref ms, .ref ma, .ref mp, .int (zI np), .ref mk, .int (zI ik), .ref md, .int (zI ml), .ref me, .ref mo, .int (zI sp), .int (zI wr), .int (zI tp), .int (zI bt), .int (zI lf), .int (zI rg), .int (zI dp)], cI cA md 80 cd] (fun r w => ∃ (sp2 : Int), ∃ (wr2 : Int), ∃ (tp2 : Int), ∃ (bt2 : Int), ∃ (lf2 : Int), ∃ (rg2 : Int), ∃ (dp2 : Int), w = [cO y 6 [.ref ms, .ref ma, .ref mp, .int (zI np), .ref mk, .int (zI ik), .ref md, .int (zI ml), .ref me, .ref mo, .int (zI sp2), .int (zI wr2), .int (zI tp2), .int (zI bt2), .int (zI lf2), .int (zI rg2), .int (zI dp2)], cI cA md 80 cd] ∧ (r = ansFault cd ml way) ∧ (-4 ≤ r ∧ r ≤ 80)) := by
  refine MI.of RX6 ⟨rfl, by decide +kernel⟩ (Or.inl rfl) (Nat.le_of_ble_eq_true rfl) (fun h => by cases h) ?_
  intro K C hret
  change K 0 0 _ [(0, .ref y), (1, .int (zI way))] 0 []
  have hzway1 := hzway.1
  have hzway2 := hzway.2
  refine y_iload_n C 1 dX6_fault_0 rfl ?_
  refine y_iconst C dX6_fault_1 ?_
  refine y_iconst C dX6_fault_2 ?_
  refine y_pcalls C (m_X6_in (l := l) (D := D) (cA := cA) (cB := cB) (vv := way) (lo := 0) (hi := 1) (by first | assumption | exact ⟨by omega, by omega⟩) (by first | assumption | exact ⟨by omega, by omega⟩) (by first | assumption | exact ⟨by omega, by omega⟩)) lk_X6_31 [] [0, 1] [0, 1] ⟨rfl, rfl, by decide, by decide, by decide⟩ ⟨rfl, by decide⟩ dX6_fault_3 rfl rfl ⟨by exact Nat.le_of_ble_eq_true rfl, by exact Nat.le_of_ble_eq_true rfl, rfl, rfl, by exact Nat.le_of_ble_eq_true rfl, by exact Nat.le_of_ble_eq_true rfl, by exact Nat.le_of_ble_eq_true rfl⟩ (fun r_2 h_1 => ?_)
  have hk := h_1
  refine y_if_ne C 11 dX6_fault_6 (by decide) ⟨by omega, by omega⟩ (fun c_3 => ?_) (fun c_3 => ?_)
  · refine y_iload_n C 1 dX6_fault_11 rfl ?_
    refine y_if_ne C 23 dX6_fault_12 (by decide) ⟨by omega, by omega⟩ (fun c_4 => ?_) (fun c_4 => ?_)
    · refine y_aload_n C 0 dX6_fault_23 rfl ?_
      refine y_mcalli C (m_X6_isNoStrip (l := l) (D := D) (cA := cA) (cB := cB) (y := y) (ms := ms) (ma := ma) (mp := mp) (mk := mk) (md := md) (me := me) (mo := mo) (np := np) (ik := ik) (ml := ml) (sp := sp) (wr := wr) (tp := tp) (bt := bt) (lf := lf) (rg := rg) (dp := dp) (cd := cd) (by first | assumption | omega | exact ⟨by omega, by omega⟩) (by first | assumption | omega | exact ⟨by omega, by omega⟩)) lk_X6_151 [0, 1] [] ⟨rfl, rfl, by decide, by decide, by decide⟩ (jb := 0) rfl rfl dX6_fault_24 rfl rfl ⟨by exact Nat.le_of_ble_eq_true rfl, by exact Nat.le_of_ble_eq_true rfl, rfl, rfl, by exact Nat.le_of_ble_eq_true rfl, by exact Nat.le_of_ble_eq_true rfl, by exact Nat.le_of_ble_eq_true rfl⟩ (fun r_6 w_9 h_5 => ?_)
      obtain ⟨sp2_7, wr2_8, rfl, h_5⟩ := h_5
      refine ⟨[0, 1], [cO y 6 [.ref ms, .ref ma, .ref mp, .int (zI np), .ref mk, .int (zI ik), .ref md, .int (zI ml), .ref me, .ref mo, .int (zI sp2_7), .int (zI wr2_8), .int (zI tp), .int (zI bt), .int (zI lf), .int (zI rg), .int (zI dp)], cI cA md 80 cd], ⟨rfl, by decide⟩, ?_⟩
      have hg := (h_5)
      refine y_istore_n C [(2, .int (zI r_6)), (0, .ref y), (1, .int (zI way))] dX6_fault_27 (by decide) rfl ?_
      refine y_iload_n C 0 dX6_fault_28 rfl ?_
      refine y_if_eq C 39 dX6_fault_29 (by decide) ⟨by omega, by omega⟩ (fun c_10 => ?_) (fun c_10 => ?_)
      · refine y_bipush C dX6_fault_39 (by decide +kernel) ?_
        refine hret _ _ _ _ dX6_fault_41 ⟨sp2_7, wr2_8, tp, bt, lf, rg, dp, rfl, ?_⟩
        show ((-4) = ansFault cd ml way) ∧ (-4 ≤ (-4) ∧ (-4) ≤ 80)
        refine ⟨?_, by omega⟩
        unfold ansFault
        first | (rw [if_pos (by omega)]; omega) | (rw [if_neg (by omega), if_pos (by omega)]; omega)
      · refine y_aload_n C 1 dX6_fault_32 rfl ?_
        refine y_get C fg_X6_106 0 dX6_fault_33 rfl rfl ?_
        refine y_goto C 41 dX6_fault_36 (by decide) ?_
        refine hret _ _ _ _ dX6_fault_41 ⟨sp2_7, wr2_8, tp, bt, lf, rg, dp, rfl, ?_⟩
        show (sp2_7 = ansFault cd ml way) ∧ (-4 ≤ sp2_7 ∧ sp2_7 ≤ 80)
        refine ⟨?_, by omega⟩
        unfold ansFault
        first | (rw [if_pos (by omega)]; omega) | (rw [if_neg (by omega), if_pos (by omega)]; omega)
    · refine y_aload_n C 0 dX6_fault_15 rfl ?_
      refine y_iconst C dX6_fault_16 ?_
      refine y_mcalli C (m_X6_goesWrong_0 (l := l) (D := D) (cA := cA) (cB := cB) (y := y) (ms := ms) (ma := ma) (mp := mp) (mk := mk) (md := md) (me := me) (mo := mo) (np := np) (ik := ik) (ml := ml) (sp := sp) (wr := wr) (tp := tp) (bt := bt) (lf := lf) (rg := rg) (dp := dp) (cd := cd) (by first | assumption | omega | exact ⟨by omega, by omega⟩) (by first | assumption | omega | exact ⟨by omega, by omega⟩)) lk_X6_147 [0, 1] [] ⟨rfl, rfl, by decide, by decide, by decide⟩ (jb := 0) rfl rfl dX6_fault_17 rfl rfl ⟨by exact Nat.le_of_ble_eq_true rfl, by exact Nat.le_of_ble_eq_true rfl, rfl, rfl, by exact Nat.le_of_ble_eq_true rfl, by exact Nat.le_of_ble_eq_true rfl, by exact Nat.le_of_ble_eq_true rfl⟩ (fun r_12 w_20 h_11 => ?_)
      obtain ⟨sp2_13, wr2_14, tp2_15, bt2_16, lf2_17, rg2_18, dp2_19, rfl, h_11⟩ := h_11
      refine ⟨[0, 1], [cO y 6 [.ref ms, .ref ma, .ref mp, .int (zI np), .ref mk, .int (zI ik), .ref md, .int (zI ml), .ref me, .ref mo, .int (zI sp2_13), .int (zI wr2_14), .int (zI tp2_15), .int (zI bt2_16), .int (zI lf2_17), .int (zI rg2_18), .int (zI dp2_19)], cI cA md 80 cd], ⟨rfl, by decide⟩, ?_⟩
      have hg := (h_11)
      refine y_goto C 27 dX6_fault_20 (by decide) ?_
      refine y_istore_n C [(2, .int (zI r_12)), (0, .ref y), (1, .int (zI way))] dX6_fault_27 (by decide) rfl ?_
      refine y_iload_n C 0 dX6_fault_28 rfl ?_
      refine y_if_eq C 39 dX6_fault_29 (by decide) ⟨by omega, by omega⟩ (fun c_21 => ?_) (fun c_21 => ?_)
      · refine y_bipush C dX6_fault_39 (by decide +kernel) ?_
        refine hret _ _ _ _ dX6_fault_41 ⟨sp2_13, wr2_14, tp2_15, bt2_16, lf2_17, rg2_18, dp2_19, rfl, ?_⟩
        show ((-4) = ansFault cd ml way) ∧ (-4 ≤ (-4) ∧ (-4) ≤ 80)
        refine ⟨?_, by omega⟩
        unfold ansFault
        first | (rw [if_pos (by omega)]; omega) | (rw [if_neg (by omega), if_pos (by omega)]; omega)
      · refine y_aload_n C 1 dX6_fault_32 rfl ?_
        refine y_get C fg_X6_106 0 dX6_fault_33 rfl rfl ?_
        refine y_goto C 41 dX6_fault_36 (by decide) ?_
        refine hret _ _ _ _ dX6_fault_41 ⟨sp2_13, wr2_14, tp2_15, bt2_16, lf2_17, rg2_18, dp2_19, rfl, ?_⟩
        show (sp2_13 = ansFault cd ml way) ∧ (-4 ≤ sp2_13 ∧ sp2_13 ≤ 80)
        refine ⟨?_, by omega⟩
        unfold ansFault
        first | (rw [if_pos (by omega)]; omega) | (rw [if_neg (by omega), if_pos (by omega)]; omega)
  · refine y_iconst C dX6_fault_9 ?_
    refine hret _ _ _ _ dX6_fault_10 ⟨sp, wr, tp, bt, lf, rg, dp, rfl, ?_⟩
    show ((-1) = ansFault cd ml way) ∧ (-4 ≤ (-1) ∧ (-1) ≤ 80)
    exact ⟨by unfold ansFault; rw [if_neg (by omega), if_neg (by omega)], by omega⟩

set_option maxHeartbeats 4000000 in
set_option maxRecDepth 100000 in
theorem m_X6_draw {l : Launch} {D : va_G} {cA cB : ClassId} {y ms ma mp mk md me mo : Nat} {np ik ml sp wr tp bt lf rg dp : Int} {u av past cd : Int → Int} (hnp : 0 ≤ np ∧ np ≤ 4) (hml : 0 ≤ ml ∧ ml ≤ 80) (hcd : ∀ k : Int, 0 ≤ k → k < 80 → 0 ≤ cd k ∧ cd k ≤ 126) (hU : UK u) : MI l yX6_draw cX6_draw 2 .int { frames := 5, cells := 0, slots := 0, locals := 111 } D (zT cA cB) [.ref y] [cO y 6 [.ref ms, .ref ma, .ref mp, .int (zI np), .ref mk, .int (zI ik), .ref md, .int (zI ml), .ref me, .ref mo, .int (zI sp), .int (zI wr), .int (zI tp), .int (zI bt), .int (zI lf), .int (zI rg), .int (zI dp)], cI cA ms 800 u, cI cA ma 800 av, cI cA mp 3200 past, cI cA md 80 cd] (fun r w => ∃ (u2 : Int → Int), ∃ (av2 : Int → Int), ∃ (past2 : Int → Int), ∃ (np2 : Int), ∃ (ml2 : Int), ∃ (sp2 : Int), ∃ (wr2 : Int), ∃ (tp2 : Int), ∃ (bt2 : Int), ∃ (lf2 : Int), ∃ (rg2 : Int), ∃ (dp2 : Int), w = [cO y 6 [.ref ms, .ref ma, .ref mp, .int (zI np2), .ref mk, .int (zI ik), .ref md, .int (zI ml2), .ref me, .ref mo, .int (zI sp2), .int (zI wr2), .int (zI tp2), .int (zI bt2), .int (zI lf2), .int (zI rg2), .int (zI dp2)], cI cA ms 800 u2, cI cA ma 800 av2, cI cA mp 3200 past2, cI cA md 80 cd] ∧ (r = ansDraw cd u ml) ∧ (∀ j : Int, 0 ≤ j → j < 800 → u2 j = vI (fsZ cd ml = -4) (drZ cd u ml) u j) ∧ (∀ j : Int, 0 ≤ j → j < 800 * np2 → past2 j = vI (fsZ cd ml = -4) (recP past u np) past j) ∧ (np2 = vI (fsZ cd ml = -4) (nxS np) np) ∧ (ml2 = vI (fsZ cd ml = -4) 0 ml)) := by
  refine MI.of RX6 ⟨rfl, by decide +kernel⟩ (Or.inl rfl) (Nat.le_of_ble_eq_true rfl) (fun h => by cases h) ?_
  intro K C hret
  change K 0 0 _ [(0, .ref y)] 0 []
  refine y_aload_n C 0 dX6_draw_0 rfl ?_
  refine y_iconst C dX6_draw_1 ?_
  refine y_mcalli C (m_X6_goesWrong_0 (l := l) (D := D) (cA := cA) (cB := cB) (y := y) (ms := ms) (ma := ma) (mp := mp) (mk := mk) (md := md) (me := me) (mo := mo) (np := np) (ik := ik) (ml := ml) (sp := sp) (wr := wr) (tp := tp) (bt := bt) (lf := lf) (rg := rg) (dp := dp) (cd := cd) (by first | assumption | omega | exact ⟨by omega, by omega⟩) (by first | assumption | omega | exact ⟨by omega, by omega⟩)) lk_X6_147 [0, 4] [1, 2, 3] ⟨rfl, rfl, by decide, by decide, by decide⟩ (jb := 0) rfl rfl dX6_draw_2 rfl rfl ⟨by exact Nat.le_of_ble_eq_true rfl, by exact Nat.le_of_ble_eq_true rfl, rfl, rfl, by exact Nat.le_of_ble_eq_true rfl, by exact Nat.le_of_ble_eq_true rfl, by exact Nat.le_of_ble_eq_true rfl⟩ (fun r_2 w_10 h_1 => ?_)
  obtain ⟨sp2_3, wr2_4, tp2_5, bt2_6, lf2_7, rg2_8, dp2_9, rfl, h_1⟩ := h_1
  refine ⟨[3, 0, 1, 2, 4], [cO y 6 [.ref ms, .ref ma, .ref mp, .int (zI np), .ref mk, .int (zI ik), .ref md, .int (zI ml), .ref me, .ref mo, .int (zI sp2_3), .int (zI wr2_4), .int (zI tp2_5), .int (zI bt2_6), .int (zI lf2_7), .int (zI rg2_8), .int (zI dp2_9)], cI cA ms 800 u, cI cA ma 800 av, cI cA mp 3200 past, cI cA md 80 cd], ⟨rfl, by decide⟩, ?_⟩
  have hg := h_1
  refine y_if_eq C 11 dX6_draw_5 (by decide) ⟨by omega, by omega⟩ (fun c_11 => ?_) (fun c_11 => ?_)
  · have hfs : fsZ cd ml = -4 := by omega
    refine y_aload_n C 0 dX6_draw_11 rfl ?_
    refine y_mcallv C (m_X6_records (l := l) (D := D) (cA := cA) (cB := cB) (y := y) (ms := ms) (ma := ma) (mp := mp) (mk := mk) (md := md) (me := me) (mo := mo) (np := np) (ik := ik) (ml := ml) (sp := sp2_3) (wr := wr2_4) (tp := tp2_5) (bt := bt2_6) (lf := lf2_7) (rg := rg2_8) (dp := dp2_9) (u := u) (past := past) (by first | assumption | omega | exact ⟨by omega, by omega⟩)) lk_X6_81 [0, 1, 3] [2, 4] ⟨rfl, rfl, by decide, by decide, by decide⟩ (jb := 0) rfl rfl dX6_draw_12 rfl rfl ⟨by exact Nat.le_of_ble_eq_true rfl, by exact Nat.le_of_ble_eq_true rfl, rfl, rfl, by exact Nat.le_of_ble_eq_true rfl, by exact Nat.le_of_ble_eq_true rfl, by exact Nat.le_of_ble_eq_true rfl⟩ (fun w_16 h_12 => ?_)
    obtain ⟨past2_14, np2_15, rfl, h_12⟩ := h_12
    refine ⟨[2, 3, 0, 4, 1], [cO y 6 [.ref ms, .ref ma, .ref mp, .int (zI np2_15), .ref mk, .int (zI ik), .ref md, .int (zI ml), .ref me, .ref mo, .int (zI sp2_3), .int (zI wr2_4), .int (zI tp2_5), .int (zI bt2_6), .int (zI lf2_7), .int (zI rg2_8), .int (zI dp2_9)], cI cA ms 800 u, cI cA ma 800 av, cI cA mp 3200 past2_14, cI cA md 80 cd], ⟨rfl, by decide⟩, ?_⟩
    obtain ⟨hr1, hr2⟩ := h_12
    refine y_aload_n C 0 dX6_draw_15 rfl ?_
    refine y_mcallv C (m_X6_putAside (l := l) (D := D) (cA := cA) (cB := cB) (y := y) (ms := ms) (ma := ma) (mp := mp) (mk := mk) (md := md) (me := me) (mo := mo) (np := np2_15) (ik := ik) (ml := ml) (sp := sp2_3) (wr := wr2_4) (tp := tp2_5) (bt := bt2_6) (lf := lf2_7) (rg := rg2_8) (dp := dp2_9) (u := u) (av := av) ) lk_X6_84 [0, 1, 2] [3, 4] ⟨rfl, rfl, by decide, by decide, by decide⟩ (jb := 0) rfl rfl dX6_draw_16 rfl rfl ⟨by exact Nat.le_of_ble_eq_true rfl, by exact Nat.le_of_ble_eq_true rfl, rfl, rfl, by exact Nat.le_of_ble_eq_true rfl, by exact Nat.le_of_ble_eq_true rfl, by exact Nat.le_of_ble_eq_true rfl⟩ (fun w_20 h_17 => ?_)
    obtain ⟨av2_19, rfl, h_17⟩ := h_17
    refine ⟨[2, 3, 4, 0, 1], [cO y 6 [.ref ms, .ref ma, .ref mp, .int (zI np2_15), .ref mk, .int (zI ik), .ref md, .int (zI ml), .ref me, .ref mo, .int (zI sp2_3), .int (zI wr2_4), .int (zI tp2_5), .int (zI bt2_6), .int (zI lf2_7), .int (zI rg2_8), .int (zI dp2_9)], cI cA ms 800 u, cI cA ma 800 av2_19, cI cA mp 3200 past2_14, cI cA md 80 cd], ⟨rfl, by decide⟩, ?_⟩
    have ha := h_17
    refine y_aload_n C 0 dX6_draw_19 rfl ?_
    refine y_iconst C dX6_draw_20 ?_
    refine y_mcalli C (m_X6_goesWrong_1 (l := l) (D := D) (cA := cA) (cB := cB) (y := y) (ms := ms) (ma := ma) (mp := mp) (mk := mk) (md := md) (me := me) (mo := mo) (np := np2_15) (ik := ik) (ml := ml) (sp := sp2_3) (wr := wr2_4) (tp := tp2_5) (bt := bt2_6) (lf := lf2_7) (rg := rg2_8) (dp := dp2_9) (u := u) (cd := cd) (by first | assumption | omega | exact ⟨by omega, by omega⟩) (by first | assumption | omega | exact ⟨by omega, by omega⟩) (by first | assumption | omega | exact ⟨by omega, by omega⟩)) lk_X6_147 [0, 1, 4] [2, 3] ⟨rfl, rfl, by decide, by decide, by decide⟩ (jb := 0) rfl rfl dX6_draw_21 rfl rfl ⟨by exact Nat.le_of_ble_eq_true rfl, by exact Nat.le_of_ble_eq_true rfl, rfl, rfl, by exact Nat.le_of_ble_eq_true rfl, by exact Nat.le_of_ble_eq_true rfl, by exact Nat.le_of_ble_eq_true rfl⟩ (fun r_22 w_31 h_21 => ?_)
    obtain ⟨sp2_23, wr2_24, tp2_25, bt2_26, lf2_27, rg2_28, dp2_29, u2_30, rfl, h_21⟩ := h_21
    refine ⟨[2, 3, 0, 1, 4], [cO y 6 [.ref ms, .ref ma, .ref mp, .int (zI np2_15), .ref mk, .int (zI ik), .ref md, .int (zI ml), .ref me, .ref mo, .int (zI sp2_23), .int (zI wr2_24), .int (zI tp2_25), .int (zI bt2_26), .int (zI lf2_27), .int (zI rg2_28), .int (zI dp2_29)], cI cA ms 800 u2_30, cI cA ma 800 av2_19, cI cA mp 3200 past2_14, cI cA md 80 cd], ⟨rfl, by decide⟩, ?_⟩
    have hl := h_21
    refine y_istore_n C [(1, .int (zI r_22)), (0, .ref y)] dX6_draw_24 (by decide) rfl ?_
    refine y_aload_n C 1 dX6_draw_25 rfl ?_
    refine y_iconst C dX6_draw_26 ?_
    refine y_put C fp_X6_103 0 [cO y 6 [.ref ms, .ref ma, .ref mp, .int (zI np2_15), .ref mk, .int (zI ik), .ref md, .int (zI 0), .ref me, .ref mo, .int (zI sp2_23), .int (zI wr2_24), .int (zI tp2_25), .int (zI bt2_26), .int (zI lf2_27), .int (zI rg2_28), .int (zI dp2_29)], cI cA ms 800 u2_30, cI cA ma 800 av2_19, cI cA mp 3200 past2_14, cI cA md 80 cd] dX6_draw_27 rfl rfl rfl (by exact Nat.le_of_ble_eq_true rfl) rfl ?_
    refine y_aload_n C 1 dX6_draw_30 rfl ?_
    refine y_bipush C dX6_draw_31 (by decide +kernel) ?_
    refine y_pcall C (m_X6_changed (l := l) (D := D) (cA := cA) (cB := cB) (y := y) (ms := ms) (ma := ma) (mp := mp) (mk := mk) (md := md) (me := me) (mo := mo) (np := np2_15) (ik := ik) (ml := 0) (sp := sp2_23) (wr := wr2_24) (tp := tp2_25) (bt := bt2_26) (lf := lf2_27) (rg := rg2_28) (dp := dp2_29) (u := u2_30) (av := av2_19) (fr := 32) (by exact Or.inl rfl) (by exact (UK_dr hU ml).c hl.2.1) (by exact hU.c ha)) lk_X6_91 [0, 1, 2] [3, 4] [2, 3, 4, 0, 1] ⟨rfl, rfl, by decide, by decide, by decide⟩ ⟨rfl, by decide⟩ rfl rfl dX6_draw_33 rfl rfl ⟨by exact Nat.le_of_ble_eq_true rfl, by exact Nat.le_of_ble_eq_true rfl, rfl, rfl, by exact Nat.le_of_ble_eq_true rfl, by exact Nat.le_of_ble_eq_true rfl, by exact Nat.le_of_ble_eq_true rfl⟩ (fun r_33 h_32 => ?_)
    have hv := h_32
    refine hret _ _ _ _ dX6_draw_36 ⟨u2_30, av2_19, past2_14, np2_15, 0, sp2_23, wr2_24, tp2_25, bt2_26, lf2_27, rg2_28, dp2_29, rfl, ?_⟩
    show (r_33 = ansDraw cd u ml) ∧ (∀ j : Int, 0 ≤ j → j < 800 → u2_30 j = vI (fsZ cd ml = -4) (drZ cd u ml) u j) ∧ (∀ j : Int, 0 ≤ j → j < 800 * np2_15 → past2_14 j = vI (fsZ cd ml = -4) (recP past u np) past j) ∧ (np2_15 = vI (fsZ cd ml = -4) (nxS np) np) ∧ (0 = vI (fsZ cd ml = -4) 0 ml)
    have hV : fsZ cd ml = -4 := by omega
    refine ⟨?_, by rw [vI_t hV]; exact hl.2.1, by rw [vI_t hV]; exact hr1, by rw [vI_t hV]; exact hr2, by rw [vI_t hV]⟩
    unfold ansDraw
    rw [vI_t hV]
    rw [hv.1]
    exact difP_congr (by omega) hl.2.1 ha
  · refine y_bipush C dX6_draw_8 (by decide +kernel) ?_
    refine hret _ _ _ _ dX6_draw_10 ⟨u, av, past, np, ml, sp2_3, wr2_4, tp2_5, bt2_6, lf2_7, rg2_8, dp2_9, rfl, ?_⟩
    show ((-2) = ansDraw cd u ml) ∧ (∀ j : Int, 0 ≤ j → j < 800 → u j = vI (fsZ cd ml = -4) (drZ cd u ml) u j) ∧ (∀ j : Int, 0 ≤ j → j < 800 * np → past j = vI (fsZ cd ml = -4) (recP past u np) past j) ∧ (np = vI (fsZ cd ml = -4) (nxS np) np) ∧ (ml = vI (fsZ cd ml = -4) 0 ml)
    have hV : ¬ (fsZ cd ml = -4) := by omega
    exact ⟨by unfold ansDraw; rw [vI_f hV], by rw [vI_f hV]; exact fun _ _ _ => rfl, by rw [vI_f hV]; exact fun _ _ _ => rfl, by rw [vI_f hV], by rw [vI_f hV]⟩

set_option maxHeartbeats 4000000 in
set_option maxRecDepth 100000 in
theorem m_X6_wind {l : Launch} {D : va_G} {cA cB : ClassId} {y ms ma mp mk md me mo : Nat} {np ik ml sp wr tp bt lf rg dp : Int} {u past cd : Int → Int} (hnp : 0 ≤ np ∧ np ≤ 4) (hml : 0 ≤ ml ∧ ml ≤ 80) (hcd : ∀ k : Int, 0 ≤ k → k < 80 → 0 ≤ cd k ∧ cd k ≤ 126) : MI l yX6_wind cX6_wind 2 .int { frames := 2, cells := 0, slots := 0, locals := 42 } D (zT cA cB) [.ref y] [cO y 6 [.ref ms, .ref ma, .ref mp, .int (zI np), .ref mk, .int (zI ik), .ref md, .int (zI ml), .ref me, .ref mo, .int (zI sp), .int (zI wr), .int (zI tp), .int (zI bt), .int (zI lf), .int (zI rg), .int (zI dp)], cI cA ms 800 u, cI cA mp 3200 past, cI cA md 80 cd] (fun r w => ∃ (u2 : Int → Int), ∃ (past2 : Int → Int), ∃ (np2 : Int), ∃ (ml2 : Int), ∃ (sp2 : Int), ∃ (wr2 : Int), w = [cO y 6 [.ref ms, .ref ma, .ref mp, .int (zI np2), .ref mk, .int (zI ik), .ref md, .int (zI ml2), .ref me, .ref mo, .int (zI sp2), .int (zI wr2), .int (zI tp), .int (zI bt), .int (zI lf), .int (zI rg), .int (zI dp)], cI cA ms 800 u2, cI cA mp 3200 past2, cI cA md 80 cd] ∧ (r = ansWind cd ml) ∧ (∀ j : Int, 0 ≤ j → j < 800 → u2 j = vI (ftZ cd ml = -4) (windU u cd ml) u j) ∧ (∀ j : Int, 0 ≤ j → j < 800 * np2 → past2 j = vI (ftZ cd ml = -4) (recP past u np) past j) ∧ (np2 = vI (ftZ cd ml = -4) (nxS np) np) ∧ (ml2 = vI (ftZ cd ml = -4) 0 ml)) := by
  refine MI.of RX6 ⟨rfl, by decide +kernel⟩ (Or.inl rfl) (Nat.le_of_ble_eq_true rfl) (fun h => by cases h) ?_
  intro K C hret
  change K 0 0 _ [(0, .ref y)] 0 []
  refine y_aload_n C 0 dX6_wind_0 rfl ?_
  refine y_mcalli C (m_X6_isNoStrip (l := l) (D := D) (cA := cA) (cB := cB) (y := y) (ms := ms) (ma := ma) (mp := mp) (mk := mk) (md := md) (me := me) (mo := mo) (np := np) (ik := ik) (ml := ml) (sp := sp) (wr := wr) (tp := tp) (bt := bt) (lf := lf) (rg := rg) (dp := dp) (cd := cd) (by first | assumption | omega | exact ⟨by omega, by omega⟩) (by first | assumption | omega | exact ⟨by omega, by omega⟩)) lk_X6_151 [0, 3] [1, 2] ⟨rfl, rfl, by decide, by decide, by decide⟩ (jb := 0) rfl rfl dX6_wind_1 rfl rfl ⟨by exact Nat.le_of_ble_eq_true rfl, by exact Nat.le_of_ble_eq_true rfl, rfl, rfl, by exact Nat.le_of_ble_eq_true rfl, by exact Nat.le_of_ble_eq_true rfl, by exact Nat.le_of_ble_eq_true rfl⟩ (fun r_2 w_5 h_1 => ?_)
  obtain ⟨sp2_3, wr2_4, rfl, h_1⟩ := h_1
  refine ⟨[2, 0, 1, 3], [cO y 6 [.ref ms, .ref ma, .ref mp, .int (zI np), .ref mk, .int (zI ik), .ref md, .int (zI ml), .ref me, .ref mo, .int (zI sp2_3), .int (zI wr2_4), .int (zI tp), .int (zI bt), .int (zI lf), .int (zI rg), .int (zI dp)], cI cA ms 800 u, cI cA mp 3200 past, cI cA md 80 cd], ⟨rfl, by decide⟩, ?_⟩
  have hg := h_1
  refine y_if_eq C 10 dX6_wind_4 (by decide) ⟨by omega, by omega⟩ (fun c_6 => ?_) (fun c_6 => ?_)
  · refine y_aload_n C 0 dX6_wind_10 rfl ?_
    refine y_mcallv C (m_X6_records (l := l) (D := D) (cA := cA) (cB := cB) (y := y) (ms := ms) (ma := ma) (mp := mp) (mk := mk) (md := md) (me := me) (mo := mo) (np := np) (ik := ik) (ml := ml) (sp := sp2_3) (wr := wr2_4) (tp := tp) (bt := bt) (lf := lf) (rg := rg) (dp := dp) (u := u) (past := past) (by first | assumption | omega | exact ⟨by omega, by omega⟩)) lk_X6_81 [0, 1, 2] [3] ⟨rfl, rfl, by decide, by decide, by decide⟩ (jb := 0) rfl rfl dX6_wind_11 rfl rfl ⟨by exact Nat.le_of_ble_eq_true rfl, by exact Nat.le_of_ble_eq_true rfl, rfl, rfl, by exact Nat.le_of_ble_eq_true rfl, by exact Nat.le_of_ble_eq_true rfl, by exact Nat.le_of_ble_eq_true rfl⟩ (fun w_11 h_7 => ?_)
    obtain ⟨past2_9, np2_10, rfl, h_7⟩ := h_7
    refine ⟨[1, 2, 3, 0], [cO y 6 [.ref ms, .ref ma, .ref mp, .int (zI np2_10), .ref mk, .int (zI ik), .ref md, .int (zI ml), .ref me, .ref mo, .int (zI sp2_3), .int (zI wr2_4), .int (zI tp), .int (zI bt), .int (zI lf), .int (zI rg), .int (zI dp)], cI cA ms 800 u, cI cA mp 3200 past2_9, cI cA md 80 cd], ⟨rfl, by decide⟩, ?_⟩
    obtain ⟨hr1, hr2⟩ := h_7
    refine y_iconst C dX6_wind_14 ?_
    refine y_istore_n C [(1, .int (zI 0)), (0, .ref y)] dX6_wind_15 (by decide) rfl ?_
    refine y_lsub C [1, 0] (lv' := [(0, .ref y), (1, .int (zI 0))]) rfl ?_
    suffices hL16 : ∀ (fu : Nat) (k : Int) (u1 : Int → Int), (0 ≤ k ∧ k ≤ 24) → (∀ j : Int, 0 ≤ j → j < 800 → u1 j = if 8 ≤ j ∧ j < 8 + k then (if j - 8 < ml then cd (j - 8) - 48 else 0) else u j) → (30 - k).toNat < fu → K 0 0 [cO y 6 [.ref ms, .ref ma, .ref mp, .int (zI np2_10), .ref mk, .int (zI ik), .ref md, .int (zI ml), .ref me, .ref mo, .int (zI sp2_3), .int (zI wr2_4), .int (zI tp), .int (zI bt), .int (zI lf), .int (zI rg), .int (zI dp)], cI cA ms 800 u1, cI cA mp 3200 past2_9, cI cA md 80 cd] [(0, .ref y), (1, .int (zI k))] 16 [] from hL16 _ 0 u (by omega) (by intro j a b; rw [if_neg (by omega)]) (Nat.lt_succ_self _)
    intro f16
    induction f16 with
    | zero => exact fun _ _ _ _ hf => absurd hf (Nat.not_lt_zero _)
    | succ f16 ih16 =>
      intro k u1 hk hu1 hf16
      refine y_iload_n C 1 dX6_wind_16 rfl ?_
      refine y_bipush C dX6_wind_17 (by decide +kernel) ?_
      refine y_icmp_ge C 58 dX6_wind_19 (by decide) ⟨⟨by omega, by omega⟩, ⟨by omega, by omega⟩⟩ (fun c_12 => ?_) (fun c_12 => ?_)
      · refine y_aload_n C 0 dX6_wind_58 rfl ?_
        refine y_get C fg_X6_7 0 dX6_wind_59 rfl rfl ?_
        refine y_bipush C dX6_wind_62 (by decide +kernel) ?_
        refine y_aload_n C 0 dX6_wind_64 rfl ?_
        refine y_get C fg_X6_103 0 dX6_wind_65 rfl rfl ?_
        refine y_iast C 1 0 [cO y 6 [.ref ms, .ref ma, .ref mp, .int (zI np2_10), .ref mk, .int (zI ik), .ref md, .int (zI ml), .ref me, .ref mo, .int (zI sp2_3), .int (zI wr2_4), .int (zI tp), .int (zI bt), .int (zI lf), .int (zI rg), .int (zI dp)], cI cA ms 800 (zU u1 7 ml), cI cA mp 3200 past2_9, cI cA md 80 cd] dX6_wind_68 rfl rfl ⟨by omega, by omega, by omega⟩ rfl ?_
        refine y_aload_n C 0 dX6_wind_69 rfl ?_
        refine y_iconst C dX6_wind_70 ?_
        refine y_put C fp_X6_103 0 [cO y 6 [.ref ms, .ref ma, .ref mp, .int (zI np2_10), .ref mk, .int (zI ik), .ref md, .int (zI 0), .ref me, .ref mo, .int (zI sp2_3), .int (zI wr2_4), .int (zI tp), .int (zI bt), .int (zI lf), .int (zI rg), .int (zI dp)], cI cA ms 800 (zU u1 7 ml), cI cA mp 3200 past2_9, cI cA md 80 cd] dX6_wind_71 rfl rfl rfl (by exact Nat.le_of_ble_eq_true rfl) rfl ?_
        refine y_aload_n C 0 dX6_wind_74 rfl ?_
        refine y_get C fg_X6_7 0 dX6_wind_75 rfl rfl ?_
        refine y_bipush C dX6_wind_78 (by decide +kernel) ?_
        refine y_iald C 1 0 dX6_wind_80 rfl rfl ⟨by omega, by omega, by omega⟩ ?_
        refine y_top (show ((zU u1 7 ml) 7) = ml from zU_s _ _ _) ?_
        refine hret _ _ _ _ dX6_wind_81 ⟨(zU u1 7 ml), past2_9, np2_10, 0, sp2_3, wr2_4, rfl, ?_⟩
        show (ml = ansWind cd ml) ∧ (∀ j : Int, 0 ≤ j → j < 800 → (zU u1 7 ml) j = vI (ftZ cd ml = -4) (windU u cd ml) u j) ∧ (∀ j : Int, 0 ≤ j → j < 800 * np2_10 → past2_9 j = vI (ftZ cd ml = -4) (recP past u np) past j) ∧ (np2_10 = vI (ftZ cd ml = -4) (nxS np) np) ∧ (0 = vI (ftZ cd ml = -4) 0 ml)
        obtain rfl : k = 24 := by omega
        have hV : ftZ cd ml = -4 := by omega
        refine ⟨?_, by rw [vI_t hV]; exact fun j a b => by unfold windU; exact (Classical.em (j = 7)).elim (fun q => by subst q; rw [zU_s, if_pos rfl]) (fun q => by rw [zU_n q, if_neg q, hu1 j a b]; (repeat' split) <;> first | rfl | (exfalso; omega)), by rw [vI_t hV]; exact hr1, by rw [vI_t hV]; exact hr2, by rw [vI_t hV]⟩
        unfold ansWind
        rw [vI_t hV]
        first | done | rfl
      · refine y_aload_n C 0 dX6_wind_22 rfl ?_
        refine y_get C fg_X6_7 0 dX6_wind_23 rfl rfl ?_
        refine y_bipush C dX6_wind_26 (by decide +kernel) ?_
        refine y_iload_n C 1 dX6_wind_28 rfl ?_
        refine y_iadd C dX6_wind_29 ?_
        refine y_iload_n C 1 dX6_wind_30 rfl ?_
        refine y_aload_n C 0 dX6_wind_31 rfl ?_
        refine y_get C fg_X6_103 0 dX6_wind_32 rfl rfl ?_
        refine y_icmp_ge C 50 dX6_wind_35 (by decide) ⟨⟨by omega, by omega⟩, ⟨by omega, by omega⟩⟩ (fun c_13 => ?_) (fun c_13 => ?_)
        · refine y_iconst C dX6_wind_50 ?_
          refine y_iast C 1 0 [cO y 6 [.ref ms, .ref ma, .ref mp, .int (zI np2_10), .ref mk, .int (zI ik), .ref md, .int (zI ml), .ref me, .ref mo, .int (zI sp2_3), .int (zI wr2_4), .int (zI tp), .int (zI bt), .int (zI lf), .int (zI rg), .int (zI dp)], cI cA ms 800 (zU u1 (8 + k) 0), cI cA mp 3200 past2_9, cI cA md 80 cd] dX6_wind_51 rfl rfl ⟨by omega, by omega, by omega⟩ rfl ?_
          refine y_iinc C 1 [(1, .int (zI (k + 1))), (0, .ref y)] dX6_wind_52 rfl (by decide) rfl ?_
          refine y_goto C 16 dX6_wind_55 (by decide) ?_
          refine y_lsub C [1, 0] (lv' := [(0, .ref y), (1, .int (zI (k + 1)))]) rfl ?_
          exact ih16 (k + 1) (zU u1 (8 + k) 0) (by omega) (by intro j a b; exact (Classical.em (j = 8 + k)).elim (fun q => by subst q; rw [zU_s, if_pos (by omega), show 8 + k - 8 = k by omega]; first | rw [if_pos (by omega)] | rw [if_neg (by omega)]) (fun q => by rw [zU_n q, hu1 j a b]; (repeat' split) <;> first | rfl | (exfalso; omega))) (by omega)
        · refine y_aload_n C 0 dX6_wind_38 rfl ?_
          refine y_get C fg_X6_22 0 dX6_wind_39 rfl rfl ?_
          refine y_iload_n C 1 dX6_wind_42 rfl ?_
          refine y_iald C 3 0 dX6_wind_43 rfl rfl ⟨by omega, by omega, by omega⟩ ?_
          have g_14 := hcd k (by omega) (by omega)
          refine y_bipush C dX6_wind_44 (by decide +kernel) ?_
          refine y_isub C dX6_wind_46 ?_
          refine y_goto C 51 dX6_wind_47 (by decide) ?_
          refine y_iast C 1 0 [cO y 6 [.ref ms, .ref ma, .ref mp, .int (zI np2_10), .ref mk, .int (zI ik), .ref md, .int (zI ml), .ref me, .ref mo, .int (zI sp2_3), .int (zI wr2_4), .int (zI tp), .int (zI bt), .int (zI lf), .int (zI rg), .int (zI dp)], cI cA ms 800 (zU u1 (8 + k) ((cd k) - 48)), cI cA mp 3200 past2_9, cI cA md 80 cd] dX6_wind_51 rfl rfl ⟨by omega, by omega, by omega⟩ rfl ?_
          refine y_iinc C 1 [(1, .int (zI (k + 1))), (0, .ref y)] dX6_wind_52 rfl (by decide) rfl ?_
          refine y_goto C 16 dX6_wind_55 (by decide) ?_
          refine y_lsub C [1, 0] (lv' := [(0, .ref y), (1, .int (zI (k + 1)))]) rfl ?_
          exact ih16 (k + 1) (zU u1 (8 + k) ((cd k) - 48)) (by omega) (by intro j a b; exact (Classical.em (j = 8 + k)).elim (fun q => by subst q; rw [zU_s, if_pos (by omega), show 8 + k - 8 = k by omega]; first | rw [if_pos (by omega)] | rw [if_neg (by omega)]) (fun q => by rw [zU_n q, hu1 j a b]; (repeat' split) <;> first | rfl | (exfalso; omega))) (by omega)
  · refine y_bipush C dX6_wind_7 (by decide +kernel) ?_
    refine hret _ _ _ _ dX6_wind_9 ⟨u, past, np, ml, sp2_3, wr2_4, rfl, ?_⟩
    show ((-2) = ansWind cd ml) ∧ (∀ j : Int, 0 ≤ j → j < 800 → u j = vI (ftZ cd ml = -4) (windU u cd ml) u j) ∧ (∀ j : Int, 0 ≤ j → j < 800 * np → past j = vI (ftZ cd ml = -4) (recP past u np) past j) ∧ (np = vI (ftZ cd ml = -4) (nxS np) np) ∧ (ml = vI (ftZ cd ml = -4) 0 ml)
    have hV : ¬ (ftZ cd ml = -4) := by omega
    exact ⟨by unfold ansWind; rw [vI_f hV], by rw [vI_f hV]; exact fun _ _ _ => rfl, by rw [vI_f hV]; exact fun _ _ _ => rfl, by rw [vI_f hV], by rw [vI_f hV]⟩
