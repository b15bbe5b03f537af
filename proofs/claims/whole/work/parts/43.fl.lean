set_option maxHeartbeats 4000000 in
set_option maxRecDepth 100000 in
theorem m_X5_away {l : Launch} {D : va_G} {cA cB : ClassId} {x ss hh pd g vw rk : Nat} {has : Int} {h : Nat} {s b0 b1 b2 b3 b4 : Nat} {len lot : Int} {u S : Int → Int} {q : Int} (hzq : zR q) (hRS : RS u S) : MF l yX5_away cX5_away 5 { frames := 1, cells := 0, slots := 0, locals := 20 } D (zT cA cB) [.ref x, .int (zI q)] [cO x 5 [.ref s, .ref ss, .int (zI has), .ref hh, .ref pd, .ref h, .ref g, .ref vw, .ref rk], cO s 4 [.ref b0, .ref b1, .ref b2, .ref b3, .ref b4, .int (zI len), .int (zI lot)], cI cA b3 6 S] (fun r w => w = [cO x 5 [.ref s, .ref ss, .int (zI has), .ref hh, .ref pd, .ref h, .ref g, .ref vw, .ref rk], cO s 4 [.ref b0, .ref b1, .ref b2, .ref b3, .ref b4, .int (zI len), .int (zI lot)], cI cA b3 6 S] ∧ r = awZ u q) := by
  refine MF.of RX5 ⟨rfl, by decide +kernel⟩ (Nat.le_of_ble_eq_true rfl) ?_
  intro K C hret
  change K 0 0 _ [(0, .ref x), (1, .int (zI q))] 0 []
  have hzq1 := hzq.1
  have hzq2 := hzq.2
  have hu := hRS.2
  obtain ⟨e0, e1, e2, e3, e4, e5⟩ := hRS.1
  refine y_iload_n C 1 dX5_away_0 rfl ?_
  refine y_pcalls C (m_X5_isPlane (l := l) (D := D) (cA := cA) (cB := cB) (x := q) (by first | assumption | omega | exact ⟨by omega, by omega⟩)) lk_X5_57 [] [0, 1, 2] [0, 1, 2] ⟨rfl, rfl, by decide, by decide, by decide⟩ ⟨rfl, by decide⟩ dX5_away_1 rfl rfl ⟨by exact Nat.le_of_ble_eq_true rfl, by exact Nat.le_of_ble_eq_true rfl, rfl, rfl, by exact Nat.le_of_ble_eq_true rfl, by exact Nat.le_of_ble_eq_true rfl, by exact Nat.le_of_ble_eq_true rfl⟩ (fun r_2 h_1 => ?_)
  refine y_if_ne C 10 dX5_away_4 (by decide) ⟨by omega, by omega⟩ (fun c_3 => ?_) (fun c_3 => ?_)
  · refine y_aload_n C 0 dX5_away_10 rfl ?_
    refine y_get C fg_X5_12 0 dX5_away_11 rfl rfl ?_
    refine y_get C fg_X5_116 1 dX5_away_14 rfl rfl ?_
    refine y_iconst C dX5_away_17 ?_
    refine y_iald C 2 0 dX5_away_18 rfl rfl ⟨by omega, by omega, by omega⟩ ?_
    refine y_iload_n C 1 dX5_away_19 rfl ?_
    refine y_isub C dX5_away_20 ?_
    refine y_istore_n C [(2, .int (zI ((S 0) - q))), (0, .ref x), (1, .int (zI q))] dX5_away_21 (by decide) rfl ?_
    refine y_aload_n C 1 dX5_away_22 rfl ?_
    refine y_get C fg_X5_12 0 dX5_away_23 rfl rfl ?_
    refine y_get C fg_X5_116 1 dX5_away_26 rfl rfl ?_
    refine y_iconst C dX5_away_29 ?_
    refine y_iald C 2 0 dX5_away_30 rfl rfl ⟨by omega, by omega, by omega⟩ ?_
    refine y_istore_n C [(3, .int (zI (S 4))), (2, .int (zI ((S 0) - q))), (0, .ref x), (1, .int (zI q))] dX5_away_31 (by decide) rfl ?_
    refine y_aload_n C 2 dX5_away_32 rfl ?_
    refine y_get C fg_X5_12 0 dX5_away_33 rfl rfl ?_
    refine y_get C fg_X5_116 1 dX5_away_36 rfl rfl ?_
    refine y_iconst C dX5_away_39 ?_
    refine y_iald C 2 0 dX5_away_40 rfl rfl ⟨by omega, by omega, by omega⟩ ?_
    refine y_iconst C dX5_away_41 ?_
    refine y_icmp_ne C 51 dX5_away_42 (by decide) ⟨⟨by omega, by omega⟩, ⟨by omega, by omega⟩⟩ (fun c_4 => ?_) (fun c_4 => ?_)
    · refine y_iload_n C 0 dX5_away_51 rfl ?_
      refine y_iload_n C 1 dX5_away_52 rfl ?_
      refine y_isub C dX5_away_53 ?_
      refine y_istore C [(4, .int (zI ((S 4) - ((S 0) - q)))), (3, .int (zI (S 4))), (2, .int (zI ((S 0) - q))), (0, .ref x), (1, .int (zI q))] dX5_away_54 (by decide) rfl ?_
      refine y_iload C 0 dX5_away_56 rfl ?_
      refine y_if_le C 80 dX5_away_58 (by decide) ⟨by omega, by omega⟩ (fun c_5 => False.elim (by omega)) (fun c_5 => ?_)
      refine y_aload_n C 3 dX5_away_61 rfl ?_
      refine y_get C fg_X5_12 0 dX5_away_62 rfl rfl ?_
      refine y_get C fg_X5_116 1 dX5_away_65 rfl rfl ?_
      refine y_iconst C dX5_away_68 ?_
      refine y_iald C 2 0 dX5_away_69 rfl rfl ⟨by omega, by omega, by omega⟩ ?_
      refine y_iload_n C 2 dX5_away_70 rfl ?_
      refine y_imul C dX5_away_71 ?_
      refine y_i2f C dX5_away_72 ?_
      refine y_iload C 0 dX5_away_73 rfl ?_
      refine y_i2f C dX5_away_75 ?_
      refine y_fdiv C dX5_away_76 (vf32_of (away_ne ⟨by omega, by omega⟩)) ?_
      refine y_goto C 82 dX5_away_77 (by decide) ?_
      refine hret _ _ _ _ dX5_away_82 ⟨rfl, ?_⟩
      show (FP.fdiv (FP.i2f (zI ((S 5) * ((S 0) - q)))) (FP.i2f (zI ((S 4) - ((S 0) - q))))) = awZ u q
      unfold awZ awG
      rw [if_pos (by omega), e5, e0, e4]
      first | rw [if_pos (by omega)] | rw [if_neg (by omega)]
    · refine y_iload_n C 0 dX5_away_45 rfl ?_
      refine y_iload_n C 1 dX5_away_46 rfl ?_
      refine y_iadd C dX5_away_47 ?_
      refine y_goto C 54 dX5_away_48 (by decide) ?_
      refine y_istore C [(4, .int (zI ((S 4) + ((S 0) - q)))), (3, .int (zI (S 4))), (2, .int (zI ((S 0) - q))), (0, .ref x), (1, .int (zI q))] dX5_away_54 (by decide) rfl ?_
      refine y_iload C 0 dX5_away_56 rfl ?_
      refine y_if_le C 80 dX5_away_58 (by decide) ⟨by omega, by omega⟩ (fun c_6 => False.elim (by omega)) (fun c_6 => ?_)
      refine y_aload_n C 3 dX5_away_61 rfl ?_
      refine y_get C fg_X5_12 0 dX5_away_62 rfl rfl ?_
      refine y_get C fg_X5_116 1 dX5_away_65 rfl rfl ?_
      refine y_iconst C dX5_away_68 ?_
      refine y_iald C 2 0 dX5_away_69 rfl rfl ⟨by omega, by omega, by omega⟩ ?_
      refine y_iload_n C 2 dX5_away_70 rfl ?_
      refine y_imul C dX5_away_71 ?_
      refine y_i2f C dX5_away_72 ?_
      refine y_iload C 0 dX5_away_73 rfl ?_
      refine y_i2f C dX5_away_75 ?_
      refine y_fdiv C dX5_away_76 (vf32_of (away_ne ⟨by omega, by omega⟩)) ?_
      refine y_goto C 82 dX5_away_77 (by decide) ?_
      refine hret _ _ _ _ dX5_away_82 ⟨rfl, ?_⟩
      show (FP.fdiv (FP.i2f (zI ((S 5) * ((S 0) - q)))) (FP.i2f (zI ((S 4) + ((S 0) - q))))) = awZ u q
      unfold awZ awG
      rw [if_pos (by omega), e5, e0, e4]
      first | rw [if_pos (by omega)] | rw [if_neg (by omega)]
  · refine y_ldcf C qw_32_9 dX5_away_7 ?_
    refine hret _ _ _ _ dX5_away_9 ⟨rfl, ?_⟩
    show 3212836864 = awZ u q
    unfold awZ; rw [if_neg (by omega)]

set_option maxHeartbeats 4000000 in
set_option maxRecDepth 100000 in
theorem m_X6_away {l : Launch} {D : va_G} {cA cB : ClassId} {y ms ma mp mk md me mo : Nat} {np ik ml sp wr tp bt lf rg dp : Int} {u : Int → Int} {q : Int} (hzq : zR q) (hU : UK u) : MF l yX6_away cX6_away 4 { frames := 1, cells := 0, slots := 0, locals := 22 } D (zT cA cB) [.ref y, .int (zI q)] [cO y 6 [.ref ms, .ref ma, .ref mp, .int (zI np), .ref mk, .int (zI ik), .ref md, .int (zI ml), .ref me, .ref mo, .int (zI sp), .int (zI wr), .int (zI tp), .int (zI bt), .int (zI lf), .int (zI rg), .int (zI dp)], cI cA ms 800 u] (fun r w => w = [cO y 6 [.ref ms, .ref ma, .ref mp, .int (zI np), .ref mk, .int (zI ik), .ref md, .int (zI ml), .ref me, .ref mo, .int (zI sp), .int (zI wr), .int (zI tp), .int (zI bt), .int (zI lf), .int (zI rg), .int (zI dp)], cI cA ms 800 u] ∧ r = awZ u q) := by
  refine MF.of RX6 ⟨rfl, by decide +kernel⟩ (Nat.le_of_ble_eq_true rfl) ?_
  intro K C hret
  change K 0 0 _ [(0, .ref y), (1, .int (zI q))] 0 []
  have hzq1 := hzq.1
  have hzq2 := hzq.2
  have hu := hU.s
  refine y_iload_n C 1 dX6_away_0 rfl ?_
  refine y_iconst C dX6_away_1 ?_
  refine y_iconst C dX6_away_2 ?_
  refine y_pcalls C (m_X6_in (l := l) (D := D) (cA := cA) (cB := cB) (vv := q) (lo := 0) (hi := 4) (by first | assumption | exact ⟨by omega, by omega⟩) (by first | assumption | exact ⟨by omega, by omega⟩) (by first | assumption | exact ⟨by omega, by omega⟩)) lk_X6_31 [] [0, 1] [0, 1] ⟨rfl, rfl, by decide, by decide, by decide⟩ ⟨rfl, by decide⟩ dX6_away_3 rfl rfl ⟨by exact Nat.le_of_ble_eq_true rfl, by exact Nat.le_of_ble_eq_true rfl, rfl, rfl, by exact Nat.le_of_ble_eq_true rfl, by exact Nat.le_of_ble_eq_true rfl, by exact Nat.le_of_ble_eq_true rfl⟩ (fun r_2 h_1 => ?_)
  refine y_if_ne C 12 dX6_away_6 (by decide) ⟨by omega, by omega⟩ (fun c_3 => ?_) (fun c_3 => ?_)
  · refine y_aload_n C 0 dX6_away_12 rfl ?_
    refine y_get C fg_X6_7 0 dX6_away_13 rfl rfl ?_
    refine y_iconst C dX6_away_16 ?_
    refine y_iald C 1 0 dX6_away_17 rfl rfl ⟨by omega, by omega, by omega⟩ ?_
    refine y_iload_n C 1 dX6_away_18 rfl ?_
    refine y_isub C dX6_away_19 ?_
    refine y_istore_n C [(2, .int (zI ((u 0) - q))), (0, .ref y), (1, .int (zI q))] dX6_away_20 (by decide) rfl ?_
    refine y_aload_n C 1 dX6_away_21 rfl ?_
    refine y_get C fg_X6_7 0 dX6_away_22 rfl rfl ?_
    refine y_iconst C dX6_away_25 ?_
    refine y_iald C 1 0 dX6_away_26 rfl rfl ⟨by omega, by omega, by omega⟩ ?_
    refine y_iconst C dX6_away_27 ?_
    refine y_icmp_ne C 42 dX6_away_28 (by decide) ⟨⟨by omega, by omega⟩, ⟨by omega, by omega⟩⟩ (fun c_4 => ?_) (fun c_4 => ?_)
    · refine y_aload_n C 1 dX6_away_42 rfl ?_
      refine y_get C fg_X6_7 0 dX6_away_43 rfl rfl ?_
      refine y_iconst C dX6_away_46 ?_
      refine y_iald C 1 0 dX6_away_47 rfl rfl ⟨by omega, by omega, by omega⟩ ?_
      refine y_iload_n C 0 dX6_away_48 rfl ?_
      refine y_isub C dX6_away_49 ?_
      refine y_istore_n C [(3, .int (zI ((u 4) - ((u 0) - q)))), (2, .int (zI ((u 0) - q))), (0, .ref y), (1, .int (zI q))] dX6_away_50 (by decide) rfl ?_
      refine y_aload_n C 2 dX6_away_51 rfl ?_
      refine y_get C fg_X6_7 0 dX6_away_52 rfl rfl ?_
      refine y_iconst C dX6_away_55 ?_
      refine y_iald C 1 0 dX6_away_56 rfl rfl ⟨by omega, by omega, by omega⟩ ?_
      refine y_iload_n C 1 dX6_away_57 rfl ?_
      refine y_imul C dX6_away_58 ?_
      refine y_i2f C dX6_away_59 ?_
      refine y_iload_n C 0 dX6_away_60 rfl ?_
      refine y_i2f C dX6_away_61 ?_
      refine y_fdiv C dX6_away_62 (vf32_of (away_ne ⟨by omega, by omega⟩)) ?_
      refine hret _ _ _ _ dX6_away_63 ⟨rfl, ?_⟩
      show (FP.fdiv (FP.i2f (zI ((u 5) * ((u 0) - q)))) (FP.i2f (zI ((u 4) - ((u 0) - q))))) = awZ u q
      unfold awZ awG
      first | (rw [if_neg (by omega)]; done) | (rw [if_pos (by omega), if_pos (by omega)]; done) | (rw [if_pos (by omega), if_neg (by omega)]; done)
    · refine y_aload_n C 1 dX6_away_31 rfl ?_
      refine y_get C fg_X6_7 0 dX6_away_32 rfl rfl ?_
      refine y_iconst C dX6_away_35 ?_
      refine y_iald C 1 0 dX6_away_36 rfl rfl ⟨by omega, by omega, by omega⟩ ?_
      refine y_iload_n C 0 dX6_away_37 rfl ?_
      refine y_iadd C dX6_away_38 ?_
      refine y_goto C 50 dX6_away_39 (by decide) ?_
      refine y_istore_n C [(3, .int (zI ((u 4) + ((u 0) - q)))), (2, .int (zI ((u 0) - q))), (0, .ref y), (1, .int (zI q))] dX6_away_50 (by decide) rfl ?_
      refine y_aload_n C 2 dX6_away_51 rfl ?_
      refine y_get C fg_X6_7 0 dX6_away_52 rfl rfl ?_
      refine y_iconst C dX6_away_55 ?_
      refine y_iald C 1 0 dX6_away_56 rfl rfl ⟨by omega, by omega, by omega⟩ ?_
      refine y_iload_n C 1 dX6_away_57 rfl ?_
      refine y_imul C dX6_away_58 ?_
      refine y_i2f C dX6_away_59 ?_
      refine y_iload_n C 0 dX6_away_60 rfl ?_
      refine y_i2f C dX6_away_61 ?_
      refine y_fdiv C dX6_away_62 (vf32_of (away_ne ⟨by omega, by omega⟩)) ?_
      refine hret _ _ _ _ dX6_away_63 ⟨rfl, ?_⟩
      show (FP.fdiv (FP.i2f (zI ((u 5) * ((u 0) - q)))) (FP.i2f (zI ((u 4) + ((u 0) - q))))) = awZ u q
      unfold awZ awG
      first | (rw [if_neg (by omega)]; done) | (rw [if_pos (by omega), if_pos (by omega)]; done) | (rw [if_pos (by omega), if_neg (by omega)]; done)
  · refine y_ldcf C qw_32_14 dX6_away_9 ?_
    refine hret _ _ _ _ dX6_away_11 ⟨rfl, ?_⟩
    show 3212836864 = awZ u q
    unfold awZ awG
    first | (rw [if_neg (by omega)]; done) | (rw [if_pos (by omega), if_pos (by omega)]; done) | (rw [if_pos (by omega), if_neg (by omega)]; done)

set_option maxHeartbeats 4000000 in
set_option maxRecDepth 100000 in
theorem m_X5_clearness {l : Launch} {D : va_G} {cA cB : ClassId} {x ss hh pd g vw rk : Nat} {has : Int} {h a0 a1 a2 a3 a4 a5 : Nat} {per win cr : Int} {p d mm sn bd ch : Int → Int} {s b0 b1 b2 b3 b4 : Nat} {len lot : Int} {u P Q M S T : Int → Int} {row : Int} (hzrow : zR row) (hbd : ∀ k : Int, 0 ≤ k → k < 32 → 0 ≤ bd k ∧ bd k ≤ 32) (hrel : Rel u S P Q M T len lot) : MD l yX5_clearness cX5_clearness 2 { frames := 6, cells := 0, slots := 0, locals := 132 } D (zT cA cB) [.ref x, .int (zI row)] [cO x 5 [.ref s, .ref ss, .int (zI has), .ref hh, .ref pd, .ref h, .ref g, .ref vw, .ref rk], cO h 1 [.ref a0, .ref a1, .ref a2, .ref a3, .ref a4, .ref a5, .int (zI per), .int (zI win), .int (zI cr)], cI cA a0 32 p, cI cA a1 32 d, cI cA a2 32 mm, cI cA a3 32 sn, cI cA a4 32 bd, cI cA a5 32 ch, cO s 4 [.ref b0, .ref b1, .ref b2, .ref b3, .ref b4, .int (zI len), .int (zI lot)], cI cA b0 256 P, cI cA b1 256 Q, cI cA b2 256 M, cI cA b3 6 S] (fun r w => ∃ (perx : Int), ∃ (winx : Int), ∃ (crx : Int), ∃ (px : Int → Int), ∃ (dx : Int → Int), ∃ (mmx : Int → Int), ∃ (snx : Int → Int), ∃ (bdx : Int → Int), ∃ (chx : Int → Int), w = [cO x 5 [.ref s, .ref ss, .int (zI has), .ref hh, .ref pd, .ref h, .ref g, .ref vw, .ref rk], cO h 1 [.ref a0, .ref a1, .ref a2, .ref a3, .ref a4, .ref a5, .int (zI perx), .int (zI winx), .int (zI crx)], cI cA a0 32 px, cI cA a1 32 dx, cI cA a2 32 mmx, cI cA a3 32 snx, cI cA a4 32 bdx, cI cA a5 32 chx, cO s 4 [.ref b0, .ref b1, .ref b2, .ref b3, .ref b4, .int (zI len), .int (zI lot)], cI cA b0 256 P, cI cA b1 256 Q, cI cA b2 256 M, cI cA b3 6 S] ∧ (r = clZ u row) ∧ (∀ k : Int, 0 ≤ k → k < 32 → 0 ≤ bdx k ∧ bdx k ≤ 32)) := by
  refine MD.of RX5 ⟨rfl, by decide +kernel⟩ (Nat.le_of_ble_eq_true rfl) ?_
  intro K C hret
  change K 0 0 _ [(0, .ref x), (1, .int (zI row))] 0 []
  have hzrow1 := hzrow.1
  have hzrow2 := hzrow.2
  refine y_iload_n C 1 dX5_clearness_0 rfl ?_
  refine y_pcalls C (m_X5_isRow (l := l) (D := D) (cA := cA) (cB := cB) (x := row) (by first | assumption | omega | exact ⟨by omega, by omega⟩)) lk_X5_50 [] [0, 1, 2, 3, 4, 5, 6, 7, 8, 9, 10, 11, 12] [0, 1, 2, 3, 4, 5, 6, 7, 8, 9, 10, 11, 12] ⟨rfl, rfl, by decide, by decide, by decide⟩ ⟨rfl, by decide⟩ dX5_clearness_1 rfl rfl ⟨by exact Nat.le_of_ble_eq_true rfl, by exact Nat.le_of_ble_eq_true rfl, rfl, rfl, by exact Nat.le_of_ble_eq_true rfl, by exact Nat.le_of_ble_eq_true rfl, by exact Nat.le_of_ble_eq_true rfl⟩ (fun r_2 h_1 => ?_)
  refine y_if_ne C 11 dX5_clearness_4 (by decide) ⟨by omega, by omega⟩ (fun c_3 => ?_) (fun c_3 => ?_)
  · refine y_aload_n C 0 dX5_clearness_11 rfl ?_
    refine y_iload_n C 1 dX5_clearness_12 rfl ?_
    refine y_mcalli C (m_X5_rightPlaces (l := l) (D := D) (cA := cA) (cB := cB) (x := x) (ss := ss) (hh := hh) (pd := pd) (g := g) (vw := vw) (rk := rk) (has := has) (h := h) (a0 := a0) (a1 := a1) (a2 := a2) (a3 := a3) (a4 := a4) (a5 := a5) (per := per) (win := win) (cr := cr) (p := p) (d := d) (mm := mm) (sn := sn) (bd := bd) (ch := ch) (s := s) (b0 := b0) (b1 := b1) (b2 := b2) (b3 := b3) (b4 := b4) (len := len) (lot := lot) (P := P) (Q := Q) (M := M) (S := S) (row := row) (by first | assumption | omega | exact ⟨by omega, by omega⟩) (by first | assumption | omega | exact ⟨by omega, by omega⟩)) lk_X5_90 [0, 1, 2, 3, 4, 5, 6, 7, 8, 9, 10, 11, 12] [] ⟨rfl, rfl, by decide, by decide, by decide⟩ (jb := 0) rfl rfl dX5_clearness_13 rfl rfl ⟨by exact Nat.le_of_ble_eq_true rfl, by exact Nat.le_of_ble_eq_true rfl, rfl, rfl, by exact Nat.le_of_ble_eq_true rfl, by exact Nat.le_of_ble_eq_true rfl, by exact Nat.le_of_ble_eq_true rfl⟩ (fun r_5 w_15 h_4 => ?_)
    obtain ⟨perx_6, winx_7, crx_8, px_9, dx_10, mmx_11, snx_12, bdx_13, chx_14, rfl, h_4⟩ := h_4
    refine ⟨[0, 1, 2, 3, 4, 5, 6, 7, 8, 9, 10, 11, 12], [cO x 5 [.ref s, .ref ss, .int (zI has), .ref hh, .ref pd, .ref h, .ref g, .ref vw, .ref rk], cO h 1 [.ref a0, .ref a1, .ref a2, .ref a3, .ref a4, .ref a5, .int (zI perx_6), .int (zI winx_7), .int (zI crx_8)], cI cA a0 32 px_9, cI cA a1 32 dx_10, cI cA a2 32 mmx_11, cI cA a3 32 snx_12, cI cA a4 32 bdx_13, cI cA a5 32 chx_14, cO s 4 [.ref b0, .ref b1, .ref b2, .ref b3, .ref b4, .int (zI len), .int (zI lot)], cI cA b0 256 P, cI cA b1 256 Q, cI cA b2 256 M, cI cA b3 6 S], ⟨rfl, by decide⟩, ?_⟩
    have hk := h_4
    refine y_i2d C dX5_clearness_16 ?_
    refine y_ldc2d C qw_32_20 dX5_clearness_17 ?_
    refine y_ddiv C dX5_clearness_20 (clr_v ⟨by omega, by omega⟩) ?_
    refine hret _ _ _ _ dX5_clearness_21 ⟨perx_6, winx_7, crx_8, px_9, dx_10, mmx_11, snx_12, bdx_13, chx_14, rfl, ?_⟩
    show ((FP.ddiv (FP.i2d (zI r_5)) 4629700416936869888) = clZ u row) ∧ (∀ k : Int, 0 ≤ k → k < 32 → 0 ≤ bdx_13 k ∧ bdx_13 k ≤ 32)
    exact ⟨by unfold clZ; rw [if_pos (by omega), hk.1, kndR_4], hk.2.2⟩
  · refine y_ldc2d C qw_32_19 dX5_clearness_7 ?_
    refine hret _ _ _ _ dX5_clearness_10 ⟨per, win, cr, p, d, mm, sn, bd, ch, rfl, ?_⟩
    show (13830554455654793216 = clZ u row) ∧ (∀ k : Int, 0 ≤ k → k < 32 → 0 ≤ bd k ∧ bd k ≤ 32)
    exact ⟨by unfold clZ; rw [if_neg (by omega)], hbd⟩

set_option maxHeartbeats 4000000 in
set_option maxRecDepth 100000 in
theorem m_X6_clearness {l : Launch} {D : va_G} {cA cB : ClassId} {y ms ma mp mk md me mo : Nat} {np ik ml sp wr tp bt lf rg dp : Int} {u sn : Int → Int} {row : Int} (hzrow : zR row) (hU : UK u) : MD l yX6_clearness cX6_clearness 2 { frames := 6, cells := 0, slots := 0, locals := 144 } D (zT cA cB) [.ref y, .int (zI row)] [cO y 6 [.ref ms, .ref ma, .ref mp, .int (zI np), .ref mk, .int (zI ik), .ref md, .int (zI ml), .ref me, .ref mo, .int (zI sp), .int (zI wr), .int (zI tp), .int (zI bt), .int (zI lf), .int (zI rg), .int (zI dp)], cI cA ms 800 u, cI cA me 32 sn] (fun r w => ∃ (sn2 : Int → Int), w = [cO y 6 [.ref ms, .ref ma, .ref mp, .int (zI np), .ref mk, .int (zI ik), .ref md, .int (zI ml), .ref me, .ref mo, .int (zI sp), .int (zI wr), .int (zI tp), .int (zI bt), .int (zI lf), .int (zI rg), .int (zI dp)], cI cA ms 800 u, cI cA me 32 sn2] ∧ (r = clZ u row)) := by
  refine MD.of RX6 ⟨rfl, by decide +kernel⟩ (Nat.le_of_ble_eq_true rfl) ?_
  intro K C hret
  change K 0 0 _ [(0, .ref y), (1, .int (zI row))] 0 []
  have hzrow1 := hzrow.1
  have hzrow2 := hzrow.2
  refine y_iload_n C 1 dX6_clearness_0 rfl ?_
  refine y_pcalls C (m_X6_isRow (l := l) (D := D) (cA := cA) (cB := cB) (xx := row) (by first | assumption | exact ⟨by omega, by omega⟩)) lk_X6_78 [] [0, 1, 2] [0, 1, 2] ⟨rfl, rfl, by decide, by decide, by decide⟩ ⟨rfl, by decide⟩ dX6_clearness_1 rfl rfl ⟨by exact Nat.le_of_ble_eq_true rfl, by exact Nat.le_of_ble_eq_true rfl, rfl, rfl, by exact Nat.le_of_ble_eq_true rfl, by exact Nat.le_of_ble_eq_true rfl, by exact Nat.le_of_ble_eq_true rfl⟩ (fun r_2 h_1 => ?_)
  refine y_if_eq C 20 dX6_clearness_4 (by decide) ⟨by omega, by omega⟩ (fun c_3 => ?_) (fun c_3 => ?_)
  · refine y_ldc2d C qw_33_2 dX6_clearness_20 ?_
    refine hret _ _ _ _ dX6_clearness_23 ⟨sn, rfl, ?_⟩
    show (13830554455654793216 = clZ u row)
    unfold clZ
    first | rw [if_neg (by omega)] | rw [if_pos (by omega), hk.1]
  · refine y_aload_n C 0 dX6_clearness_7 rfl ?_
    refine y_iload_n C 1 dX6_clearness_8 rfl ?_
    refine y_mcalli C (m_X6_rightOnes (l := l) (D := D) (cA := cA) (cB := cB) (y := y) (ms := ms) (ma := ma) (mp := mp) (mk := mk) (md := md) (me := me) (mo := mo) (np := np) (ik := ik) (ml := ml) (sp := sp) (wr := wr) (tp := tp) (bt := bt) (lf := lf) (rg := rg) (dp := dp) (u := u) (sn := sn) (row := row) (by first | assumption | omega | exact ⟨by omega, by omega⟩) (by first | assumption | omega | exact ⟨by omega, by omega⟩)) lk_X6_74 [0, 1, 2] [] ⟨rfl, rfl, by decide, by decide, by decide⟩ (jb := 0) rfl rfl dX6_clearness_9 rfl rfl ⟨by exact Nat.le_of_ble_eq_true rfl, by exact Nat.le_of_ble_eq_true rfl, rfl, rfl, by exact Nat.le_of_ble_eq_true rfl, by exact Nat.le_of_ble_eq_true rfl, by exact Nat.le_of_ble_eq_true rfl⟩ (fun r_5 w_7 h_4 => ?_)
    obtain ⟨sn2_6, rfl, h_4⟩ := h_4
    refine ⟨[0, 1, 2], [cO y 6 [.ref ms, .ref ma, .ref mp, .int (zI np), .ref mk, .int (zI ik), .ref md, .int (zI ml), .ref me, .ref mo, .int (zI sp), .int (zI wr), .int (zI tp), .int (zI bt), .int (zI lf), .int (zI rg), .int (zI dp)], cI cA ms 800 u, cI cA me 32 sn2_6], ⟨rfl, by decide⟩, ?_⟩
    have hk := (h_4).1
    refine y_i2d C dX6_clearness_12 ?_
    refine y_ldc2d C qw_33_1 dX6_clearness_13 ?_
    refine y_ddiv C dX6_clearness_16 (clr_v ⟨by omega, by omega⟩) ?_
    refine y_goto C 23 dX6_clearness_17 (by decide) ?_
    refine hret _ _ _ _ dX6_clearness_23 ⟨sn2_6, rfl, ?_⟩
    show ((FP.ddiv (FP.i2d (zI r_5)) 4629700416936869888) = clZ u row)
    unfold clZ
    first | rw [if_neg (by omega)] | rw [if_pos (by omega), hk.1]
