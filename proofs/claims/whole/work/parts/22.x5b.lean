set_option maxHeartbeats 4000000 in
set_option maxRecDepth 100000 in
theorem m_X5_at {l : Launch} {D : va_G} {cA cB : ClassId} {x ss hh pd g vw rk : Nat} {has : Int} {h a0 a1 a2 a3 a4 a5 : Nat} {per win cr : Int} {p d mm sn bd ch : Int → Int} {s b0 b1 b2 b3 b4 : Nat} {len lot : Int} {u P Q M S T : Int → Int} {row col wh : Int} (hzrow : zR row) (hzcol : zR col) (hzwh : zR wh) (hbd : ∀ k : Int, 0 ≤ k → k < 32 → 0 ≤ bd k ∧ bd k ≤ 32) (hrel : Rel u S P Q M T len lot) : MI l yX5_at cX5_at 4 .int { frames := 5, cells := 0, slots := 0, locals := 111 } D (zT cA cB) [.ref x, .int (zI row), .int (zI col), .int (zI wh)] [cO x 5 [.ref s, .ref ss, .int (zI has), .ref hh, .ref pd, .ref h, .ref g, .ref vw, .ref rk], cO h 1 [.ref a0, .ref a1, .ref a2, .ref a3, .ref a4, .ref a5, .int (zI per), .int (zI win), .int (zI cr)], cI cA a0 32 p, cI cA a1 32 d, cI cA a2 32 mm, cI cA a3 32 sn, cI cA a4 32 bd, cI cA a5 32 ch, cO s 4 [.ref b0, .ref b1, .ref b2, .ref b3, .ref b4, .int (zI len), .int (zI lot)], cI cA b0 256 P, cI cA b1 256 Q, cI cA b2 256 M, cI cA b3 6 S] (fun r w => ∃ (perx : Int), ∃ (winx : Int), ∃ (crx : Int), ∃ (px : Int → Int), ∃ (dx : Int → Int), ∃ (mmx : Int → Int), ∃ (snx : Int → Int), ∃ (bdx : Int → Int), ∃ (chx : Int → Int), w = [cO x 5 [.ref s, .ref ss, .int (zI has), .ref hh, .ref pd, .ref h, .ref g, .ref vw, .ref rk], cO h 1 [.ref a0, .ref a1, .ref a2, .ref a3, .ref a4, .ref a5, .int (zI perx), .int (zI winx), .int (zI crx)], cI cA a0 32 px, cI cA a1 32 dx, cI cA a2 32 mmx, cI cA a3 32 snx, cI cA a4 32 bdx, cI cA a5 32 chx, cO s 4 [.ref b0, .ref b1, .ref b2, .ref b3, .ref b4, .int (zI len), .int (zI lot)], cI cA b0 256 P, cI cA b1 256 Q, cI cA b2 256 M, cI cA b3 6 S] ∧ (r = ansAt u row col wh) ∧ (∀ k : Int, 0 ≤ k → k < 32 → 0 ≤ bdx k ∧ bdx k ≤ 32)) := by
  refine MI.of RX5 ⟨rfl, by decide +kernel⟩ (Or.inl rfl) (Nat.le_of_ble_eq_true rfl) (fun h => by cases h) ?_
  intro K C hret
  change K 0 0 _ [(0, .ref x), (1, .int (zI row)), (2, .int (zI col)), (3, .int (zI wh))] 0 []
  have hRS := hrel.S
  have hRP := hrel.P
  have hRQ := hrel.Q
  have hRM := hrel.M
  have hu := hRS.2
  have hzrow1 := hzrow.1
  have hzrow2 := hzrow.2
  have hzcol1 := hzcol.1
  have hzcol2 := hzcol.2
  have hzwh1 := hzwh.1
  have hzwh2 := hzwh.2
  refine y_iload_n C 1 dX5_at_0 rfl ?_
  refine y_pcalls C (m_X5_isRow (l := l) (D := D) (cA := cA) (cB := cB) (x := row) (by first | assumption | omega | exact ⟨by omega, by omega⟩)) lk_X5_50 [] [0, 1, 2, 3, 4, 5, 6, 7, 8, 9, 10, 11, 12] [0, 1, 2, 3, 4, 5, 6, 7, 8, 9, 10, 11, 12] ⟨rfl, rfl, by decide, by decide, by decide⟩ ⟨rfl, by decide⟩ dX5_at_1 rfl rfl ⟨by exact Nat.le_of_ble_eq_true rfl, by exact Nat.le_of_ble_eq_true rfl, rfl, rfl, by exact Nat.le_of_ble_eq_true rfl, by exact Nat.le_of_ble_eq_true rfl, by exact Nat.le_of_ble_eq_true rfl⟩ (fun r_2 h_1 => ?_)
  refine y_if_eq C 14 dX5_at_4 (by decide) ⟨by omega, by omega⟩ (fun c_3 => ?_) (fun c_3 => ?_)
  · refine y_iconst C dX5_at_14 ?_
    refine hret _ _ _ _ dX5_at_15 ⟨per, win, cr, p, d, mm, sn, bd, ch, rfl, ?_⟩
    show ((-1) = ansAt u row col wh) ∧ (∀ k : Int, 0 ≤ k → k < 32 → 0 ≤ bd k ∧ bd k ≤ 32)
    refine ⟨?_, by first | exact hbd | exact hb5⟩
    unfold ansAt atZ
    (repeat' split) <;> first | rfl | (exfalso; omega) | (rw [hp4 col (by omega) (by omega)]; done) | (rw [hd4 col (by omega) (by omega)]; done) | (rw [hs4 col (by omega) (by omega)]; done) | (rw [hb4 col (by omega) (by omega)]; done) | (rw [hc4 col (by omega) (by omega)]; done) | (rw [hm4 col (by omega) (by omega)]; done) | (rw [hbt]; exact zb_congr (hp4 col (by omega) (by omega))) | (rw [hpc, hc4 col (by omega) (by omega)]; exact zcnt_congr (fun k a b => by rw [hc4 k a b]))
  · refine y_iload_n C 2 dX5_at_7 rfl ?_
    refine y_pcalls C (m_X5_isColumn (l := l) (D := D) (cA := cA) (cB := cB) (x := col) (by first | assumption | omega | exact ⟨by omega, by omega⟩)) lk_X5_54 [] [0, 1, 2, 3, 4, 5, 6, 7, 8, 9, 10, 11, 12] [0, 1, 2, 3, 4, 5, 6, 7, 8, 9, 10, 11, 12] ⟨rfl, rfl, by decide, by decide, by decide⟩ ⟨rfl, by decide⟩ dX5_at_8 rfl rfl ⟨by exact Nat.le_of_ble_eq_true rfl, by exact Nat.le_of_ble_eq_true rfl, rfl, rfl, by exact Nat.le_of_ble_eq_true rfl, by exact Nat.le_of_ble_eq_true rfl, by exact Nat.le_of_ble_eq_true rfl⟩ (fun r_5 h_4 => ?_)
    refine y_if_ne C 16 dX5_at_11 (by decide) ⟨by omega, by omega⟩ (fun c_6 => ?_) (fun c_6 => ?_)
    · refine y_aload_n C 0 dX5_at_16 rfl ?_
      refine y_get C fg_X5_36 0 dX5_at_17 rfl rfl ?_
      refine y_aload_n C 0 dX5_at_20 rfl ?_
      refine y_get C fg_X5_12 0 dX5_at_21 rfl rfl ?_
      refine y_iload_n C 1 dX5_at_24 rfl ?_
      refine y_mcallv C (m_X1_study (l := l) (D := D) (cA := cA) (cB := cB) (h := h) (a0 := a0) (a1 := a1) (a2 := a2) (a3 := a3) (a4 := a4) (a5 := a5) (per := per) (win := win) (cr := cr) (s := s) (b0 := b0) (b1 := b1) (b2 := b2) (b3 := b3) (b4 := b4) (len := len) (lot := lot) (p := p) (d := d) (mm := mm) (sn := sn) (bd := bd) (ch := ch) (P := P) (Q := Q) (M := M) (S := S) (row := row) (by first | assumption | omega | exact ⟨by omega, by omega⟩) (by first | assumption | omega | exact ⟨by omega, by omega⟩) (by first | assumption | omega | exact ⟨by omega, by omega⟩) (by first | assumption | omega | exact ⟨by omega, by omega⟩) (by first | assumption | omega | exact ⟨by omega, by omega⟩)) lk_X5_146 [1, 2, 3, 4, 5, 6, 7, 8, 9, 10, 11, 12] [0] ⟨rfl, rfl, by decide, by decide, by decide⟩ (jb := 0) rfl rfl dX5_at_25 rfl rfl ⟨by exact Nat.le_of_ble_eq_true rfl, by exact Nat.le_of_ble_eq_true rfl, rfl, rfl, by exact Nat.le_of_ble_eq_true rfl, by exact Nat.le_of_ble_eq_true rfl, by exact Nat.le_of_ble_eq_true rfl⟩ (fun w_15 h_7 => ?_)
      obtain ⟨p4_9, d4_10, mm4_11, sn4_12, bd4_13, ch4_14, rfl, h_7⟩ := h_7
      refine ⟨[0, 1, 2, 3, 4, 5, 6, 7, 8, 9, 10, 11, 12], [cO x 5 [.ref s, .ref ss, .int (zI has), .ref hh, .ref pd, .ref h, .ref g, .ref vw, .ref rk], cO h 1 [.ref a0, .ref a1, .ref a2, .ref a3, .ref a4, .ref a5, .int (zI (u 0)), .int (zI (u 2)), .int (zI (u 3))], cI cA a0 32 p4_9, cI cA a1 32 d4_10, cI cA a2 32 mm4_11, cI cA a3 32 sn4_12, cI cA a4 32 bd4_13, cI cA a5 32 ch4_14, cO s 4 [.ref b0, .ref b1, .ref b2, .ref b3, .ref b4, .int (zI len), .int (zI lot)], cI cA b0 256 P, cI cA b1 256 Q, cI cA b2 256 M, cI cA b3 6 S], ⟨rfl, by decide⟩, ?_⟩
      obtain ⟨hp4, hd4, hm4, hs4, hb4, hc4⟩ := h_7
      have hp5 : ∀ k : Int, 0 ≤ k → k < 32 → 0 ≤ p4_9 k ∧ p4_9 k ≤ 4 := fun k h0 h1 => by rw [hp4 k h0 h1]; exact (zp_of hRP (by omega) h0 h1).2
      have hd5 : ∀ k : Int, 0 ≤ k → k < 32 → 0 ≤ d4_10 k ∧ d4_10 k ≤ 7 := fun k h0 h1 => by rw [hd4 k h0 h1]; exact (zd_of hRQ (by omega) h0 h1).2
      have hm5 : ∀ k : Int, 0 ≤ k → k < 32 → -4 ≤ mm4_11 k ∧ mm4_11 k ≤ 7 := fun k h0 h1 => by rw [hm4 k h0 h1]; exact (zk_of hRM (by omega) h0 h1).2
      have hs5 : ∀ k : Int, 0 ≤ k → k < 32 → -4 ≤ sn4_12 k ∧ sn4_12 k ≤ 4 := fun k h0 h1 => by rw [hs4 k h0 h1]; have := seeR_r u row k; omega
      have hb5 : ∀ k : Int, 0 ≤ k → k < 32 → 0 ≤ bd4_13 k ∧ bd4_13 k ≤ 32 := fun k h0 h1 => by rw [hb4 k h0 h1]; exact bndZ_r _ _ _
      have hpu : ∀ k : Int, 0 ≤ k → k < 32 → p4_9 k < u 0 := fun k h0 h1 => by have := hp5 k h0 h1; omega
      have hc5 : ∀ k : Int, 0 ≤ k → k < 32 → 0 ≤ ch4_14 k ∧ ch4_14 k ≤ 31 := fun k h0 h1 => by rw [hc4 k h0 h1]; have := chZ_r (per := u 0) (p := zp u row) (fun j a b => by rw [← hp4 j a b]; exact hpu j a b) ⟨h0, h1⟩; unfold chnR; omega
      refine y_iload_n C 3 dX5_at_28 rfl ?_
      rcases (show wh = 0 ∨ wh = 1 ∨ wh = 2 ∨ wh = 3 ∨ wh = 4 ∨ wh = 5 ∨ wh = 6 ∨ wh = 7 ∨ (wh < 0 ∨ 7 < wh) from by omega) with s_16 | s_16 | s_16 | s_16 | s_16 | s_16 | s_16 | s_16 | s_16
      · refine y_tin C 76 0 dX5_at_29 ⟨by omega, by omega⟩ ⟨by omega, by omega⟩ (by omega) rfl (by decide) ?_
        refine y_aload_n C 0 dX5_at_76 rfl ?_
        refine y_get C fg_X5_36 0 dX5_at_77 rfl rfl ?_
        refine y_get C fg_X5_76 1 dX5_at_80 rfl rfl ?_
        refine y_iload_n C 2 dX5_at_83 rfl ?_
        refine y_iald C 2 0 dX5_at_84 rfl rfl ⟨by omega, by omega, by omega⟩ ?_
        refine hret _ _ _ _ dX5_at_85 ⟨(u 0), (u 2), (u 3), p4_9, d4_10, mm4_11, sn4_12, bd4_13, ch4_14, rfl, ?_⟩
        show ((p4_9 col) = ansAt u row col wh) ∧ (∀ k : Int, 0 ≤ k → k < 32 → 0 ≤ bd4_13 k ∧ bd4_13 k ≤ 32)
        refine ⟨?_, by first | exact hbd | exact hb5⟩
        unfold ansAt atZ
        (repeat' split) <;> first | rfl | (exfalso; omega) | (rw [hp4 col (by omega) (by omega)]; done) | (rw [hd4 col (by omega) (by omega)]; done) | (rw [hs4 col (by omega) (by omega)]; done) | (rw [hb4 col (by omega) (by omega)]; done) | (rw [hc4 col (by omega) (by omega)]; done) | (rw [hm4 col (by omega) (by omega)]; done) | (rw [hbt]; exact zb_congr (hp4 col (by omega) (by omega))) | (rw [hpc, hc4 col (by omega) (by omega)]; exact zcnt_congr (fun k a b => by rw [hc4 k a b]))
      · refine y_tin C 86 1 dX5_at_29 ⟨by omega, by omega⟩ ⟨by omega, by omega⟩ (by omega) rfl (by decide) ?_
        refine y_aload_n C 0 dX5_at_86 rfl ?_
        refine y_get C fg_X5_36 0 dX5_at_87 rfl rfl ?_
        refine y_get C fg_X5_149 1 dX5_at_90 rfl rfl ?_
        refine y_iload_n C 2 dX5_at_93 rfl ?_
        refine y_iald C 3 0 dX5_at_94 rfl rfl ⟨by omega, by omega, by omega⟩ ?_
        refine hret _ _ _ _ dX5_at_95 ⟨(u 0), (u 2), (u 3), p4_9, d4_10, mm4_11, sn4_12, bd4_13, ch4_14, rfl, ?_⟩
        show ((d4_10 col) = ansAt u row col wh) ∧ (∀ k : Int, 0 ≤ k → k < 32 → 0 ≤ bd4_13 k ∧ bd4_13 k ≤ 32)
        refine ⟨?_, by first | exact hbd | exact hb5⟩
        unfold ansAt atZ
        (repeat' split) <;> first | rfl | (exfalso; omega) | (rw [hp4 col (by omega) (by omega)]; done) | (rw [hd4 col (by omega) (by omega)]; done) | (rw [hs4 col (by omega) (by omega)]; done) | (rw [hb4 col (by omega) (by omega)]; done) | (rw [hc4 col (by omega) (by omega)]; done) | (rw [hm4 col (by omega) (by omega)]; done) | (rw [hbt]; exact zb_congr (hp4 col (by omega) (by omega))) | (rw [hpc, hc4 col (by omega) (by omega)]; exact zcnt_congr (fun k a b => by rw [hc4 k a b]))
      · refine y_tin C 96 2 dX5_at_29 ⟨by omega, by omega⟩ ⟨by omega, by omega⟩ (by omega) rfl (by decide) ?_
        refine y_aload_n C 0 dX5_at_96 rfl ?_
        refine y_get C fg_X5_36 0 dX5_at_97 rfl rfl ?_
        refine y_get C fg_X5_150 1 dX5_at_100 rfl rfl ?_
        refine y_iload_n C 2 dX5_at_103 rfl ?_
        refine y_iald C 5 0 dX5_at_104 rfl rfl ⟨by omega, by omega, by omega⟩ ?_
        refine hret _ _ _ _ dX5_at_105 ⟨(u 0), (u 2), (u 3), p4_9, d4_10, mm4_11, sn4_12, bd4_13, ch4_14, rfl, ?_⟩
        show ((sn4_12 col) = ansAt u row col wh) ∧ (∀ k : Int, 0 ≤ k → k < 32 → 0 ≤ bd4_13 k ∧ bd4_13 k ≤ 32)
        refine ⟨?_, by first | exact hbd | exact hb5⟩
        unfold ansAt atZ
        (repeat' split) <;> first | rfl | (exfalso; omega) | (rw [hp4 col (by omega) (by omega)]; done) | (rw [hd4 col (by omega) (by omega)]; done) | (rw [hs4 col (by omega) (by omega)]; done) | (rw [hb4 col (by omega) (by omega)]; done) | (rw [hc4 col (by omega) (by omega)]; done) | (rw [hm4 col (by omega) (by omega)]; done) | (rw [hbt]; exact zb_congr (hp4 col (by omega) (by omega))) | (rw [hpc, hc4 col (by omega) (by omega)]; exact zcnt_congr (fun k a b => by rw [hc4 k a b]))
      · refine y_tin C 106 3 dX5_at_29 ⟨by omega, by omega⟩ ⟨by omega, by omega⟩ (by omega) rfl (by decide) ?_
        refine y_aload_n C 0 dX5_at_106 rfl ?_
        refine y_get C fg_X5_36 0 dX5_at_107 rfl rfl ?_
        refine y_iload_n C 2 dX5_at_110 rfl ?_
        refine y_pcall C (m_X1_boundTo (l := l) (D := D) (cA := cA) (cB := cB) (h := h) (a0 := a0) (a1 := a1) (a2 := a2) (a3 := a3) (a4 := a4) (a5 := a5) (per := u 0) (win := u 2) (cr := u 3) (p := p4_9) (c := col) (by first | assumption | omega | exact ⟨by omega, by omega⟩) (by first | assumption | omega | exact ⟨by omega, by omega⟩) (by first | assumption | omega | exact ⟨by omega, by omega⟩)) lk_X5_153 [1, 2] [0, 3, 4, 5, 6, 7, 8, 9, 10, 11, 12] [0, 11, 12, 1, 2, 3, 4, 5, 6, 7, 8, 9, 10] ⟨rfl, rfl, by decide, by decide, by decide⟩ ⟨rfl, by decide⟩ rfl rfl dX5_at_111 rfl rfl ⟨by exact Nat.le_of_ble_eq_true rfl, by exact Nat.le_of_ble_eq_true rfl, rfl, rfl, by exact Nat.le_of_ble_eq_true rfl, by exact Nat.le_of_ble_eq_true rfl, by exact Nat.le_of_ble_eq_true rfl⟩ (fun r_18 h_17 => ?_)
        have hbt := (h_17).1
        refine hret _ _ _ _ dX5_at_114 ⟨(u 0), (u 2), (u 3), p4_9, d4_10, mm4_11, sn4_12, bd4_13, ch4_14, rfl, ?_⟩
        show (r_18 = ansAt u row col wh) ∧ (∀ k : Int, 0 ≤ k → k < 32 → 0 ≤ bd4_13 k ∧ bd4_13 k ≤ 32)
        refine ⟨?_, by first | exact hbd | exact hb5⟩
        unfold ansAt atZ
        (repeat' split) <;> first | rfl | (exfalso; omega) | (rw [hp4 col (by omega) (by omega)]; done) | (rw [hd4 col (by omega) (by omega)]; done) | (rw [hs4 col (by omega) (by omega)]; done) | (rw [hb4 col (by omega) (by omega)]; done) | (rw [hc4 col (by omega) (by omega)]; done) | (rw [hm4 col (by omega) (by omega)]; done) | (rw [hbt]; exact zb_congr (hp4 col (by omega) (by omega))) | (rw [hpc, hc4 col (by omega) (by omega)]; exact zcnt_congr (fun k a b => by rw [hc4 k a b]))
      · refine y_tin C 115 4 dX5_at_29 ⟨by omega, by omega⟩ ⟨by omega, by omega⟩ (by omega) rfl (by decide) ?_
        refine y_aload_n C 0 dX5_at_115 rfl ?_
        refine y_get C fg_X5_36 0 dX5_at_116 rfl rfl ?_
        refine y_get C fg_X5_156 1 dX5_at_119 rfl rfl ?_
        refine y_iload_n C 2 dX5_at_122 rfl ?_
        refine y_iald C 6 0 dX5_at_123 rfl rfl ⟨by omega, by omega, by omega⟩ ?_
        refine hret _ _ _ _ dX5_at_124 ⟨(u 0), (u 2), (u 3), p4_9, d4_10, mm4_11, sn4_12, bd4_13, ch4_14, rfl, ?_⟩
        show ((bd4_13 col) = ansAt u row col wh) ∧ (∀ k : Int, 0 ≤ k → k < 32 → 0 ≤ bd4_13 k ∧ bd4_13 k ≤ 32)
        refine ⟨?_, by first | exact hbd | exact hb5⟩
        unfold ansAt atZ
        (repeat' split) <;> first | rfl | (exfalso; omega) | (rw [hp4 col (by omega) (by omega)]; done) | (rw [hd4 col (by omega) (by omega)]; done) | (rw [hs4 col (by omega) (by omega)]; done) | (rw [hb4 col (by omega) (by omega)]; done) | (rw [hc4 col (by omega) (by omega)]; done) | (rw [hm4 col (by omega) (by omega)]; done) | (rw [hbt]; exact zb_congr (hp4 col (by omega) (by omega))) | (rw [hpc, hc4 col (by omega) (by omega)]; exact zcnt_congr (fun k a b => by rw [hc4 k a b]))
      · refine y_tin C 125 5 dX5_at_29 ⟨by omega, by omega⟩ ⟨by omega, by omega⟩ (by omega) rfl (by decide) ?_
        refine y_aload_n C 0 dX5_at_125 rfl ?_
        refine y_get C fg_X5_36 0 dX5_at_126 rfl rfl ?_
        refine y_get C fg_X5_159 1 dX5_at_129 rfl rfl ?_
        refine y_iload_n C 2 dX5_at_132 rfl ?_
        refine y_iald C 7 0 dX5_at_133 rfl rfl ⟨by omega, by omega, by omega⟩ ?_
        refine hret _ _ _ _ dX5_at_134 ⟨(u 0), (u 2), (u 3), p4_9, d4_10, mm4_11, sn4_12, bd4_13, ch4_14, rfl, ?_⟩
        show ((ch4_14 col) = ansAt u row col wh) ∧ (∀ k : Int, 0 ≤ k → k < 32 → 0 ≤ bd4_13 k ∧ bd4_13 k ≤ 32)
        refine ⟨?_, by first | exact hbd | exact hb5⟩
        unfold ansAt atZ
        (repeat' split) <;> first | rfl | (exfalso; omega) | (rw [hp4 col (by omega) (by omega)]; done) | (rw [hd4 col (by omega) (by omega)]; done) | (rw [hs4 col (by omega) (by omega)]; done) | (rw [hb4 col (by omega) (by omega)]; done) | (rw [hc4 col (by omega) (by omega)]; done) | (rw [hm4 col (by omega) (by omega)]; done) | (rw [hbt]; exact zb_congr (hp4 col (by omega) (by omega))) | (rw [hpc, hc4 col (by omega) (by omega)]; exact zcnt_congr (fun k a b => by rw [hc4 k a b]))
      · refine y_tin C 135 6 dX5_at_29 ⟨by omega, by omega⟩ ⟨by omega, by omega⟩ (by omega) rfl (by decide) ?_
        refine y_aload_n C 0 dX5_at_135 rfl ?_
        refine y_get C fg_X5_36 0 dX5_at_136 rfl rfl ?_
        refine y_aload_n C 0 dX5_at_139 rfl ?_
        refine y_get C fg_X5_36 0 dX5_at_140 rfl rfl ?_
        refine y_get C fg_X5_159 1 dX5_at_143 rfl rfl ?_
        refine y_iload_n C 2 dX5_at_146 rfl ?_
        refine y_iald C 7 0 dX5_at_147 rfl rfl ⟨by omega, by omega, by omega⟩ ?_
        have hcc := hc5 col (by omega) (by omega)
        refine y_pcall C (m_X1_placesOfChain (l := l) (D := D) (cA := cA) (cB := cB) (h := h) (a0 := a0) (a1 := a1) (a2 := a2) (a3 := a3) (a4 := a4) (a5 := a5) (per := u 0) (win := u 2) (cr := u 3) (ch := ch4_14) (q := ch4_14 col) (by first | assumption | omega | exact ⟨by omega, by omega⟩) (by first | assumption | omega | exact ⟨by omega, by omega⟩)) lk_X5_162 [1, 7] [0, 2, 3, 4, 5, 6, 8, 9, 10, 11, 12] [0, 11, 1, 2, 3, 4, 5, 12, 6, 7, 8, 9, 10] ⟨rfl, rfl, by decide, by decide, by decide⟩ ⟨rfl, by decide⟩ rfl rfl dX5_at_148 rfl rfl ⟨by exact Nat.le_of_ble_eq_true rfl, by exact Nat.le_of_ble_eq_true rfl, rfl, rfl, by exact Nat.le_of_ble_eq_true rfl, by exact Nat.le_of_ble_eq_true rfl, by exact Nat.le_of_ble_eq_true rfl⟩ (fun r_20 h_19 => ?_)
        have hpc := (h_19).1
        refine hret _ _ _ _ dX5_at_151 ⟨(u 0), (u 2), (u 3), p4_9, d4_10, mm4_11, sn4_12, bd4_13, ch4_14, rfl, ?_⟩
        show (r_20 = ansAt u row col wh) ∧ (∀ k : Int, 0 ≤ k → k < 32 → 0 ≤ bd4_13 k ∧ bd4_13 k ≤ 32)
        refine ⟨?_, by first | exact hbd | exact hb5⟩
        unfold ansAt atZ
        (repeat' split) <;> first | rfl | (exfalso; omega) | (rw [hp4 col (by omega) (by omega)]; done) | (rw [hd4 col (by omega) (by omega)]; done) | (rw [hs4 col (by omega) (by omega)]; done) | (rw [hb4 col (by omega) (by omega)]; done) | (rw [hc4 col (by omega) (by omega)]; done) | (rw [hm4 col (by omega) (by omega)]; done) | (rw [hbt]; exact zb_congr (hp4 col (by omega) (by omega))) | (rw [hpc, hc4 col (by omega) (by omega)]; exact zcnt_congr (fun k a b => by rw [hc4 k a b]))
      · refine y_tin C 152 7 dX5_at_29 ⟨by omega, by omega⟩ ⟨by omega, by omega⟩ (by omega) rfl (by decide) ?_
        refine y_aload_n C 0 dX5_at_152 rfl ?_
        refine y_get C fg_X5_36 0 dX5_at_153 rfl rfl ?_
        refine y_get C fg_X5_165 1 dX5_at_156 rfl rfl ?_
        refine y_iload_n C 2 dX5_at_159 rfl ?_
        refine y_iald C 4 0 dX5_at_160 rfl rfl ⟨by omega, by omega, by omega⟩ ?_
        refine hret _ _ _ _ dX5_at_161 ⟨(u 0), (u 2), (u 3), p4_9, d4_10, mm4_11, sn4_12, bd4_13, ch4_14, rfl, ?_⟩
        show ((mm4_11 col) = ansAt u row col wh) ∧ (∀ k : Int, 0 ≤ k → k < 32 → 0 ≤ bd4_13 k ∧ bd4_13 k ≤ 32)
        refine ⟨?_, by first | exact hbd | exact hb5⟩
        unfold ansAt atZ
        (repeat' split) <;> first | rfl | (exfalso; omega) | (rw [hp4 col (by omega) (by omega)]; done) | (rw [hd4 col (by omega) (by omega)]; done) | (rw [hs4 col (by omega) (by omega)]; done) | (rw [hb4 col (by omega) (by omega)]; done) | (rw [hc4 col (by omega) (by omega)]; done) | (rw [hm4 col (by omega) (by omega)]; done) | (rw [hbt]; exact zb_congr (hp4 col (by omega) (by omega))) | (rw [hpc, hc4 col (by omega) (by omega)]; exact zcnt_congr (fun k a b => by rw [hc4 k a b]))
      · refine y_tout C 162 dX5_at_29 ⟨by omega, by omega⟩ (by omega) (by decide) ?_
        refine y_iconst C dX5_at_162 ?_
        refine hret _ _ _ _ dX5_at_163 ⟨(u 0), (u 2), (u 3), p4_9, d4_10, mm4_11, sn4_12, bd4_13, ch4_14, rfl, ?_⟩
        show ((-1) = ansAt u row col wh) ∧ (∀ k : Int, 0 ≤ k → k < 32 → 0 ≤ bd4_13 k ∧ bd4_13 k ≤ 32)
        refine ⟨?_, by first | exact hbd | exact hb5⟩
        unfold ansAt atZ
        (repeat' split) <;> first | rfl | (exfalso; omega) | (rw [hp4 col (by omega) (by omega)]; done) | (rw [hd4 col (by omega) (by omega)]; done) | (rw [hs4 col (by omega) (by omega)]; done) | (rw [hb4 col (by omega) (by omega)]; done) | (rw [hc4 col (by omega) (by omega)]; done) | (rw [hm4 col (by omega) (by omega)]; done) | (rw [hbt]; exact zb_congr (hp4 col (by omega) (by omega))) | (rw [hpc, hc4 col (by omega) (by omega)]; exact zcnt_congr (fun k a b => by rw [hc4 k a b]))
    · refine y_iconst C dX5_at_14 ?_
      refine hret _ _ _ _ dX5_at_15 ⟨per, win, cr, p, d, mm, sn, bd, ch, rfl, ?_⟩
      show ((-1) = ansAt u row col wh) ∧ (∀ k : Int, 0 ≤ k → k < 32 → 0 ≤ bd k ∧ bd k ≤ 32)
      refine ⟨?_, by first | exact hbd | exact hb5⟩
      unfold ansAt atZ
      (repeat' split) <;> first | rfl | (exfalso; omega) | (rw [hp4 col (by omega) (by omega)]; done) | (rw [hd4 col (by omega) (by omega)]; done) | (rw [hs4 col (by omega) (by omega)]; done) | (rw [hb4 col (by omega) (by omega)]; done) | (rw [hc4 col (by omega) (by omega)]; done) | (rw [hm4 col (by omega) (by omega)]; done) | (rw [hbt]; exact zb_congr (hp4 col (by omega) (by omega))) | (rw [hpc, hc4 col (by omega) (by omega)]; exact zcnt_congr (fun k a b => by rw [hc4 k a b]))

set_option maxHeartbeats 4000000 in
set_option maxRecDepth 100000 in
theorem m_X5_fits {l : Launch} {D : va_G} {cA cB : ClassId} {x ss hh pd g vw rk : Nat} {has : Int} {h a0 a1 a2 a3 a4 a5 : Nat} {per win cr : Int} {p d mm sn bd ch : Int → Int} {s b0 b1 b2 b3 b4 : Nat} {len lot : Int} {u P Q M S T : Int → Int} {row col q : Int} (hzrow : zR row) (hzcol : zR col) (hzq : zR q) (hbd : ∀ k : Int, 0 ≤ k → k < 32 → 0 ≤ bd k ∧ bd k ≤ 32) (hrel : Rel u S P Q M T len lot) : MI l yX5_fits cX5_fits 4 .int { frames := 2, cells := 0, slots := 0, locals := 45 } D (zT cA cB) [.ref x, .int (zI row), .int (zI col), .int (zI q)] [cO x 5 [.ref s, .ref ss, .int (zI has), .ref hh, .ref pd, .ref h, .ref g, .ref vw, .ref rk], cO h 1 [.ref a0, .ref a1, .ref a2, .ref a3, .ref a4, .ref a5, .int (zI per), .int (zI win), .int (zI cr)], cI cA a0 32 p, cI cA a1 32 d, cI cA a2 32 mm, cI cA a3 32 sn, cI cA a4 32 bd, cI cA a5 32 ch, cO s 4 [.ref b0, .ref b1, .ref b2, .ref b3, .ref b4, .int (zI len), .int (zI lot)], cI cA b0 256 P, cI cA b1 256 Q, cI cA b2 256 M, cI cA b3 6 S] (fun r w => ∃ (perx : Int), ∃ (winx : Int), ∃ (crx : Int), ∃ (px : Int → Int), ∃ (dx : Int → Int), ∃ (mmx : Int → Int), ∃ (snx : Int → Int), ∃ (bdx : Int → Int), ∃ (chx : Int → Int), w = [cO x 5 [.ref s, .ref ss, .int (zI has), .ref hh, .ref pd, .ref h, .ref g, .ref vw, .ref rk], cO h 1 [.ref a0, .ref a1, .ref a2, .ref a3, .ref a4, .ref a5, .int (zI perx), .int (zI winx), .int (zI crx)], cI cA a0 32 px, cI cA a1 32 dx, cI cA a2 32 mmx, cI cA a3 32 snx, cI cA a4 32 bdx, cI cA a5 32 chx, cO s 4 [.ref b0, .ref b1, .ref b2, .ref b3, .ref b4, .int (zI len), .int (zI lot)], cI cA b0 256 P, cI cA b1 256 Q, cI cA b2 256 M, cI cA b3 6 S] ∧ (r = ansFits u row col q) ∧ (∀ k : Int, 0 ≤ k → k < 32 → 0 ≤ bdx k ∧ bdx k ≤ 32)) := by
  refine MI.of RX5 ⟨rfl, by decide +kernel⟩ (Or.inl rfl) (Nat.le_of_ble_eq_true rfl) (fun h => by cases h) ?_
  intro K C hret
  change K 0 0 _ [(0, .ref x), (1, .int (zI row)), (2, .int (zI col)), (3, .int (zI q))] 0 []
  have hRS := hrel.S
  have hRP := hrel.P
  have hRQ := hrel.Q
  have hRM := hrel.M
  have hu := hRS.2
  have hzrow1 := hzrow.1
  have hzrow2 := hzrow.2
  have hzcol1 := hzcol.1
  have hzcol2 := hzcol.2
  have hzq1 := hzq.1
  have hzq2 := hzq.2
  refine y_iload_n C 1 dX5_fits_0 rfl ?_
  refine y_pcalls C (m_X5_isRow (l := l) (D := D) (cA := cA) (cB := cB) (x := row) (by first | assumption | omega | exact ⟨by omega, by omega⟩)) lk_X5_50 [] [0, 1, 2, 3, 4, 5, 6, 7, 8, 9, 10, 11, 12] [0, 1, 2, 3, 4, 5, 6, 7, 8, 9, 10, 11, 12] ⟨rfl, rfl, by decide, by decide, by decide⟩ ⟨rfl, by decide⟩ dX5_fits_1 rfl rfl ⟨by exact Nat.le_of_ble_eq_true rfl, by exact Nat.le_of_ble_eq_true rfl, rfl, rfl, by exact Nat.le_of_ble_eq_true rfl, by exact Nat.le_of_ble_eq_true rfl, by exact Nat.le_of_ble_eq_true rfl⟩ (fun r_2 h_1 => ?_)
  refine y_if_eq C 21 dX5_fits_4 (by decide) ⟨by omega, by omega⟩ (fun c_3 => ?_) (fun c_3 => ?_)
  · refine y_iconst C dX5_fits_21 ?_
    refine hret _ _ _ _ dX5_fits_22 ⟨per, win, cr, p, d, mm, sn, bd, ch, rfl, ?_⟩
    show ((-1) = ansFits u row col q) ∧ (∀ k : Int, 0 ≤ k → k < 32 → 0 ≤ bd k ∧ bd k ≤ 32)
    refine ⟨?_, hbd⟩
    unfold ansFits
    first | (rw [if_neg (by omega)]; done) | (rw [if_pos (by omega), bI_iff (fitP_congr (q := q) (fun k a b => (hd4 k a b).symm) (by omega))]; rcases hf with hf | hf; (first | exact (bI_t hf.2).symm | (exfalso; omega)); (first | exact (bI_f hf.2).symm | (exfalso; omega)))
  · refine y_iload_n C 2 dX5_fits_7 rfl ?_
    refine y_pcalls C (m_X5_isColumn (l := l) (D := D) (cA := cA) (cB := cB) (x := col) (by first | assumption | omega | exact ⟨by omega, by omega⟩)) lk_X5_54 [] [0, 1, 2, 3, 4, 5, 6, 7, 8, 9, 10, 11, 12] [0, 1, 2, 3, 4, 5, 6, 7, 8, 9, 10, 11, 12] ⟨rfl, rfl, by decide, by decide, by decide⟩ ⟨rfl, by decide⟩ dX5_fits_8 rfl rfl ⟨by exact Nat.le_of_ble_eq_true rfl, by exact Nat.le_of_ble_eq_true rfl, rfl, rfl, by exact Nat.le_of_ble_eq_true rfl, by exact Nat.le_of_ble_eq_true rfl, by exact Nat.le_of_ble_eq_true rfl⟩ (fun r_5 h_4 => ?_)
    refine y_if_eq C 21 dX5_fits_11 (by decide) ⟨by omega, by omega⟩ (fun c_6 => ?_) (fun c_6 => ?_)
    · refine y_iconst C dX5_fits_21 ?_
      refine hret _ _ _ _ dX5_fits_22 ⟨per, win, cr, p, d, mm, sn, bd, ch, rfl, ?_⟩
      show ((-1) = ansFits u row col q) ∧ (∀ k : Int, 0 ≤ k → k < 32 → 0 ≤ bd k ∧ bd k ≤ 32)
      refine ⟨?_, hbd⟩
      unfold ansFits
      first | (rw [if_neg (by omega)]; done) | (rw [if_pos (by omega), bI_iff (fitP_congr (q := q) (fun k a b => (hd4 k a b).symm) (by omega))]; rcases hf with hf | hf; (first | exact (bI_t hf.2).symm | (exfalso; omega)); (first | exact (bI_f hf.2).symm | (exfalso; omega)))
    · refine y_iload_n C 3 dX5_fits_14 rfl ?_
      refine y_pcalls C (m_X5_isPlane (l := l) (D := D) (cA := cA) (cB := cB) (x := q) (by first | assumption | omega | exact ⟨by omega, by omega⟩)) lk_X5_57 [] [0, 1, 2, 3, 4, 5, 6, 7, 8, 9, 10, 11, 12] [0, 1, 2, 3, 4, 5, 6, 7, 8, 9, 10, 11, 12] ⟨rfl, rfl, by decide, by decide, by decide⟩ ⟨rfl, by decide⟩ dX5_fits_15 rfl rfl ⟨by exact Nat.le_of_ble_eq_true rfl, by exact Nat.le_of_ble_eq_true rfl, rfl, rfl, by exact Nat.le_of_ble_eq_true rfl, by exact Nat.le_of_ble_eq_true rfl, by exact Nat.le_of_ble_eq_true rfl⟩ (fun r_8 h_7 => ?_)
      refine y_if_ne C 23 dX5_fits_18 (by decide) ⟨by omega, by omega⟩ (fun c_9 => ?_) (fun c_9 => ?_)
      · refine y_aload_n C 0 dX5_fits_23 rfl ?_
        refine y_get C fg_X5_36 0 dX5_fits_24 rfl rfl ?_
        refine y_aload_n C 0 dX5_fits_27 rfl ?_
        refine y_get C fg_X5_12 0 dX5_fits_28 rfl rfl ?_
        refine y_iload_n C 1 dX5_fits_31 rfl ?_
        refine y_mcallv C (m_X1_takeRow (l := l) (D := D) (cA := cA) (cB := cB) (h := h) (a0 := a0) (a1 := a1) (a2 := a2) (a3 := a3) (a4 := a4) (a5 := a5) (per := per) (win := win) (cr := cr) (s := s) (b0 := b0) (b1 := b1) (b2 := b2) (b3 := b3) (b4 := b4) (len := len) (lot := lot) (p := p) (d := d) (mm := mm) (P := P) (Q := Q) (M := M) (S := S) (row := row) (by first | assumption | omega | exact ⟨by omega, by omega⟩) (by first | assumption | omega | exact ⟨by omega, by omega⟩) (by first | assumption | omega | exact ⟨by omega, by omega⟩) (by first | assumption | omega | exact ⟨by omega, by omega⟩) (by first | assumption | omega | exact ⟨by omega, by omega⟩)) lk_X5_72 [1, 2, 3, 4, 8, 9, 10, 11, 12] [0, 5, 6, 7] ⟨rfl, rfl, by decide, by decide, by decide⟩ (jb := 0) rfl rfl dX5_fits_32 rfl rfl ⟨by exact Nat.le_of_ble_eq_true rfl, by exact Nat.le_of_ble_eq_true rfl, rfl, rfl, by exact Nat.le_of_ble_eq_true rfl, by exact Nat.le_of_ble_eq_true rfl, by exact Nat.le_of_ble_eq_true rfl⟩ (fun w_15 h_10 => ?_)
        obtain ⟨p2_12, d2_13, mm2_14, rfl, h_10⟩ := h_10
        refine ⟨[0, 4, 5, 6, 7, 1, 2, 3, 8, 9, 10, 11, 12], [cO x 5 [.ref s, .ref ss, .int (zI has), .ref hh, .ref pd, .ref h, .ref g, .ref vw, .ref rk], cO h 1 [.ref a0, .ref a1, .ref a2, .ref a3, .ref a4, .ref a5, .int (zI (u 0)), .int (zI (u 2)), .int (zI (u 3))], cI cA a0 32 p2_12, cI cA a1 32 d2_13, cI cA a2 32 mm2_14, cI cA a3 32 sn, cI cA a4 32 bd, cI cA a5 32 ch, cO s 4 [.ref b0, .ref b1, .ref b2, .ref b3, .ref b4, .int (zI len), .int (zI lot)], cI cA b0 256 P, cI cA b1 256 Q, cI cA b2 256 M, cI cA b3 6 S], ⟨rfl, by decide⟩, ?_⟩
        obtain ⟨hp4, hd4, hm4⟩ := h_10
        have hp5 : ∀ k : Int, 0 ≤ k → k < 32 → 0 ≤ p2_12 k ∧ p2_12 k ≤ 4 := fun k h0 h1 => by rw [hp4 k h0 h1]; exact (zp_of hRP (by omega) h0 h1).2
        have hd5 : ∀ k : Int, 0 ≤ k → k < 32 → 0 ≤ d2_13 k ∧ d2_13 k ≤ 7 := fun k h0 h1 => by rw [hd4 k h0 h1]; exact (zd_of hRQ (by omega) h0 h1).2
        have hm5 : ∀ k : Int, 0 ≤ k → k < 32 → -4 ≤ mm2_14 k ∧ mm2_14 k ≤ 7 := fun k h0 h1 => by rw [hm4 k h0 h1]; exact (zk_of hRM (by omega) h0 h1).2
        have hpu : ∀ k : Int, 0 ≤ k → k < 32 → p2_12 k < u 0 := fun k h0 h1 => by have := hp5 k h0 h1; omega
        refine y_aload_n C 0 dX5_fits_35 rfl ?_
        refine y_get C fg_X5_36 0 dX5_fits_36 rfl rfl ?_
        refine y_iload_n C 2 dX5_fits_39 rfl ?_
        refine y_iload_n C 3 dX5_fits_40 rfl ?_
        refine y_pcall C (m_X1_isFitting (l := l) (D := D) (cA := cA) (cB := cB) (h := h) (a0 := a0) (a1 := a1) (a2 := a2) (a3 := a3) (a4 := a4) (a5 := a5) (per := u 0) (win := u 2) (cr := u 3) (d := d2_13) (c := col) (q := q) (by first | assumption | omega | exact ⟨by omega, by omega⟩) (by first | assumption | omega | exact ⟨by omega, by omega⟩) (by first | assumption | omega | exact ⟨by omega, by omega⟩) (by first | assumption | omega | exact ⟨by omega, by omega⟩) (by first | assumption | omega | exact ⟨by omega, by omega⟩)) lk_X5_166 [1, 3] [0, 2, 4, 5, 6, 7, 8, 9, 10, 11, 12] [0, 11, 1, 12, 2, 3, 4, 5, 6, 7, 8, 9, 10] ⟨rfl, rfl, by decide, by decide, by decide⟩ ⟨rfl, by decide⟩ rfl rfl dX5_fits_41 rfl rfl ⟨by exact Nat.le_of_ble_eq_true rfl, by exact Nat.le_of_ble_eq_true rfl, rfl, rfl, by exact Nat.le_of_ble_eq_true rfl, by exact Nat.le_of_ble_eq_true rfl, by exact Nat.le_of_ble_eq_true rfl⟩ (fun r_17 h_16 => ?_)
        have hf := h_16
        refine y_if_eq C 51 dX5_fits_44 (by decide) ⟨by omega, by omega⟩ (fun c_18 => ?_) (fun c_18 => ?_)
        · refine y_iconst C dX5_fits_51 ?_
          refine hret _ _ _ _ dX5_fits_52 ⟨(u 0), (u 2), (u 3), p2_12, d2_13, mm2_14, sn, bd, ch, rfl, ?_⟩
          show (0 = ansFits u row col q) ∧ (∀ k : Int, 0 ≤ k → k < 32 → 0 ≤ bd k ∧ bd k ≤ 32)
          refine ⟨?_, hbd⟩
          unfold ansFits
          first | (rw [if_neg (by omega)]; done) | (rw [if_pos (by omega), bI_iff (fitP_congr (q := q) (fun k a b => (hd4 k a b).symm) (by omega))]; rcases hf with hf | hf; (first | exact (bI_t hf.2).symm | (exfalso; omega)); (first | exact (bI_f hf.2).symm | (exfalso; omega)))
        · refine y_iconst C dX5_fits_47 ?_
          refine y_goto C 52 dX5_fits_48 (by decide) ?_
          refine hret _ _ _ _ dX5_fits_52 ⟨(u 0), (u 2), (u 3), p2_12, d2_13, mm2_14, sn, bd, ch, rfl, ?_⟩
          show (1 = ansFits u row col q) ∧ (∀ k : Int, 0 ≤ k → k < 32 → 0 ≤ bd k ∧ bd k ≤ 32)
          refine ⟨?_, hbd⟩
          unfold ansFits
          first | (rw [if_neg (by omega)]; done) | (rw [if_pos (by omega), bI_iff (fitP_congr (q := q) (fun k a b => (hd4 k a b).symm) (by omega))]; rcases hf with hf | hf; (first | exact (bI_t hf.2).symm | (exfalso; omega)); (first | exact (bI_f hf.2).symm | (exfalso; omega)))
      · refine y_iconst C dX5_fits_21 ?_
        refine hret _ _ _ _ dX5_fits_22 ⟨per, win, cr, p, d, mm, sn, bd, ch, rfl, ?_⟩
        show ((-1) = ansFits u row col q) ∧ (∀ k : Int, 0 ≤ k → k < 32 → 0 ≤ bd k ∧ bd k ≤ 32)
        refine ⟨?_, hbd⟩
        unfold ansFits
        first | (rw [if_neg (by omega)]; done) | (rw [if_pos (by omega), bI_iff (fitP_congr (q := q) (fun k a b => (hd4 k a b).symm) (by omega))]; rcases hf with hf | hf; (first | exact (bI_t hf.2).symm | (exfalso; omega)); (first | exact (bI_f hf.2).symm | (exfalso; omega)))

set_option maxHeartbeats 4000000 in
set_option maxRecDepth 100000 in
theorem m_X5_row {l : Launch} {D : va_G} {cA cB : ClassId} {x ss hh pd g vw rk : Nat} {has : Int} {h a0 a1 a2 a3 a4 a5 : Nat} {per win cr : Int} {p d mm sn bd ch : Int → Int} {s b0 b1 b2 b3 b4 : Nat} {len lot : Int} {u P Q M S T : Int → Int} {row wh : Int} (hzrow : zR row) (hzwh : zR wh) (hbd : ∀ k : Int, 0 ≤ k → k < 32 → 0 ≤ bd k ∧ bd k ≤ 32) (hrel : Rel u S P Q M T len lot) : MI l yX5_row cX5_row 3 .int { frames := 5, cells := 0, slots := 0, locals := 111 } D (zT cA cB) [.ref x, .int (zI row), .int (zI wh)] [cO x 5 [.ref s, .ref ss, .int (zI has), .ref hh, .ref pd, .ref h, .ref g, .ref vw, .ref rk], cO h 1 [.ref a0, .ref a1, .ref a2, .ref a3, .ref a4, .ref a5, .int (zI per), .int (zI win), .int (zI cr)], cI cA a0 32 p, cI cA a1 32 d, cI cA a2 32 mm, cI cA a3 32 sn, cI cA a4 32 bd, cI cA a5 32 ch, cO s 4 [.ref b0, .ref b1, .ref b2, .ref b3, .ref b4, .int (zI len), .int (zI lot)], cI cA b0 256 P, cI cA b1 256 Q, cI cA b2 256 M, cI cA b3 6 S] (fun r w => ∃ (perx : Int), ∃ (winx : Int), ∃ (crx : Int), ∃ (px : Int → Int), ∃ (dx : Int → Int), ∃ (mmx : Int → Int), ∃ (snx : Int → Int), ∃ (bdx : Int → Int), ∃ (chx : Int → Int), w = [cO x 5 [.ref s, .ref ss, .int (zI has), .ref hh, .ref pd, .ref h, .ref g, .ref vw, .ref rk], cO h 1 [.ref a0, .ref a1, .ref a2, .ref a3, .ref a4, .ref a5, .int (zI perx), .int (zI winx), .int (zI crx)], cI cA a0 32 px, cI cA a1 32 dx, cI cA a2 32 mmx, cI cA a3 32 snx, cI cA a4 32 bdx, cI cA a5 32 chx, cO s 4 [.ref b0, .ref b1, .ref b2, .ref b3, .ref b4, .int (zI len), .int (zI lot)], cI cA b0 256 P, cI cA b1 256 Q, cI cA b2 256 M, cI cA b3 6 S] ∧ (r = ansRow u row wh) ∧ (∀ k : Int, 0 ≤ k → k < 32 → 0 ≤ bdx k ∧ bdx k ≤ 32)) := by
  refine MI.of RX5 ⟨rfl, by decide +kernel⟩ (Or.inl rfl) (Nat.le_of_ble_eq_true rfl) (fun h => by cases h) ?_
  intro K C hret
  change K 0 0 _ [(0, .ref x), (1, .int (zI row)), (2, .int (zI wh))] 0 []
  have hRS := hrel.S
  have hRP := hrel.P
  have hRQ := hrel.Q
  have hRM := hrel.M
  have hu := hRS.2
  have hzrow1 := hzrow.1
  have hzrow2 := hzrow.2
  have hzwh1 := hzwh.1
  have hzwh2 := hzwh.2
  refine y_iload_n C 1 dX5_row_0 rfl ?_
  refine y_pcalls C (m_X5_isRow (l := l) (D := D) (cA := cA) (cB := cB) (x := row) (by first | assumption | omega | exact ⟨by omega, by omega⟩)) lk_X5_50 [] [0, 1, 2, 3, 4, 5, 6, 7, 8, 9, 10, 11, 12] [0, 1, 2, 3, 4, 5, 6, 7, 8, 9, 10, 11, 12] ⟨rfl, rfl, by decide, by decide, by decide⟩ ⟨rfl, by decide⟩ dX5_row_1 rfl rfl ⟨by exact Nat.le_of_ble_eq_true rfl, by exact Nat.le_of_ble_eq_true rfl, rfl, rfl, by exact Nat.le_of_ble_eq_true rfl, by exact Nat.le_of_ble_eq_true rfl, by exact Nat.le_of_ble_eq_true rfl⟩ (fun r_2 h_1 => ?_)
  refine y_if_eq C 17 dX5_row_4 (by decide) ⟨by omega, by omega⟩ (fun c_3 => ?_) (fun c_3 => ?_)
  · refine y_iconst C dX5_row_17 ?_
    refine hret _ _ _ _ dX5_row_18 ⟨per, win, cr, p, d, mm, sn, bd, ch, rfl, ?_⟩
    show ((-1) = ansRow u row wh) ∧ (∀ k : Int, 0 ≤ k → k < 32 → 0 ≤ bd k ∧ bd k ≤ 32)
    refine ⟨?_, hbd⟩
    unfold ansRow
    rw [if_neg (by omega)]
  · refine y_iload_n C 2 dX5_row_7 rfl ?_
    refine y_if_lt C 17 dX5_row_8 (by decide) ⟨by omega, by omega⟩ (fun c_4 => ?_) (fun c_4 => ?_)
    · refine y_iconst C dX5_row_17 ?_
      refine hret _ _ _ _ dX5_row_18 ⟨per, win, cr, p, d, mm, sn, bd, ch, rfl, ?_⟩
      show ((-1) = ansRow u row wh) ∧ (∀ k : Int, 0 ≤ k → k < 32 → 0 ≤ bd k ∧ bd k ≤ 32)
      refine ⟨?_, hbd⟩
      unfold ansRow
      rw [if_neg (by omega)]
    · refine y_iload_n C 2 dX5_row_11 rfl ?_
      refine y_bipush C dX5_row_12 (by decide +kernel) ?_
      refine y_icmp_le C 19 dX5_row_14 (by decide) ⟨⟨by omega, by omega⟩, ⟨by omega, by omega⟩⟩ (fun c_5 => ?_) (fun c_5 => ?_)
      · refine y_aload_n C 0 dX5_row_19 rfl ?_
        refine y_get C fg_X5_36 0 dX5_row_20 rfl rfl ?_
        refine y_aload_n C 0 dX5_row_23 rfl ?_
        refine y_get C fg_X5_12 0 dX5_row_24 rfl rfl ?_
        refine y_iload_n C 1 dX5_row_27 rfl ?_
        refine y_mcallv C (m_X1_study (l := l) (D := D) (cA := cA) (cB := cB) (h := h) (a0 := a0) (a1 := a1) (a2 := a2) (a3 := a3) (a4 := a4) (a5 := a5) (per := per) (win := win) (cr := cr) (s := s) (b0 := b0) (b1 := b1) (b2 := b2) (b3 := b3) (b4 := b4) (len := len) (lot := lot) (p := p) (d := d) (mm := mm) (sn := sn) (bd := bd) (ch := ch) (P := P) (Q := Q) (M := M) (S := S) (row := row) (by first | assumption | omega | exact ⟨by omega, by omega⟩) (by first | assumption | omega | exact ⟨by omega, by omega⟩) (by first | assumption | omega | exact ⟨by omega, by omega⟩) (by first | assumption | omega | exact ⟨by omega, by omega⟩) (by first | assumption | omega | exact ⟨by omega, by omega⟩)) lk_X5_146 [1, 2, 3, 4, 5, 6, 7, 8, 9, 10, 11, 12] [0] ⟨rfl, rfl, by decide, by decide, by decide⟩ (jb := 0) rfl rfl dX5_row_28 rfl rfl ⟨by exact Nat.le_of_ble_eq_true rfl, by exact Nat.le_of_ble_eq_true rfl, rfl, rfl, by exact Nat.le_of_ble_eq_true rfl, by exact Nat.le_of_ble_eq_true rfl, by exact Nat.le_of_ble_eq_true rfl⟩ (fun w_14 h_6 => ?_)
        obtain ⟨p4_8, d4_9, mm4_10, sn4_11, bd4_12, ch4_13, rfl, h_6⟩ := h_6
        refine ⟨[0, 1, 2, 3, 4, 5, 6, 7, 8, 9, 10, 11, 12], [cO x 5 [.ref s, .ref ss, .int (zI has), .ref hh, .ref pd, .ref h, .ref g, .ref vw, .ref rk], cO h 1 [.ref a0, .ref a1, .ref a2, .ref a3, .ref a4, .ref a5, .int (zI (u 0)), .int (zI (u 2)), .int (zI (u 3))], cI cA a0 32 p4_8, cI cA a1 32 d4_9, cI cA a2 32 mm4_10, cI cA a3 32 sn4_11, cI cA a4 32 bd4_12, cI cA a5 32 ch4_13, cO s 4 [.ref b0, .ref b1, .ref b2, .ref b3, .ref b4, .int (zI len), .int (zI lot)], cI cA b0 256 P, cI cA b1 256 Q, cI cA b2 256 M, cI cA b3 6 S], ⟨rfl, by decide⟩, ?_⟩
        obtain ⟨hp4, hd4, hm4, hs4, hb4, hc4⟩ := h_6
        have hp5 : ∀ k : Int, 0 ≤ k → k < 32 → 0 ≤ p4_8 k ∧ p4_8 k ≤ 4 := fun k h0 h1 => by rw [hp4 k h0 h1]; exact (zp_of hRP (by omega) h0 h1).2
        have hd5 : ∀ k : Int, 0 ≤ k → k < 32 → 0 ≤ d4_9 k ∧ d4_9 k ≤ 7 := fun k h0 h1 => by rw [hd4 k h0 h1]; exact (zd_of hRQ (by omega) h0 h1).2
        have hm5 : ∀ k : Int, 0 ≤ k → k < 32 → -4 ≤ mm4_10 k ∧ mm4_10 k ≤ 7 := fun k h0 h1 => by rw [hm4 k h0 h1]; exact (zk_of hRM (by omega) h0 h1).2
        have hs5 : ∀ k : Int, 0 ≤ k → k < 32 → -4 ≤ sn4_11 k ∧ sn4_11 k ≤ 4 := fun k h0 h1 => by rw [hs4 k h0 h1]; have := seeR_r u row k; omega
        have hb5 : ∀ k : Int, 0 ≤ k → k < 32 → 0 ≤ bd4_12 k ∧ bd4_12 k ≤ 32 := fun k h0 h1 => by rw [hb4 k h0 h1]; exact bndZ_r _ _ _
        have hpu : ∀ k : Int, 0 ≤ k → k < 32 → p4_8 k < u 0 := fun k h0 h1 => by have := hp5 k h0 h1; omega
        have hc5 : ∀ k : Int, 0 ≤ k → k < 32 → 0 ≤ ch4_13 k ∧ ch4_13 k ≤ 31 := fun k h0 h1 => by rw [hc4 k h0 h1]; have := chZ_r (per := u 0) (p := zp u row) (fun j a b => by rw [← hp4 j a b]; exact hpu j a b) ⟨h0, h1⟩; unfold chnR; omega
        refine y_iload_n C 2 dX5_row_31 rfl ?_
        rcases (show wh = 8 ∨ wh = 9 ∨ wh = 10 ∨ (wh < 8 ∨ 10 < wh) from by omega) with s_15 | s_15 | s_15 | s_15
        · refine y_tin C 60 0 dX5_row_32 ⟨by omega, by omega⟩ ⟨by omega, by omega⟩ (by omega) rfl (by decide) ?_
          refine y_aload_n C 0 dX5_row_60 rfl ?_
          refine y_get C fg_X5_36 0 dX5_row_61 rfl rfl ?_
          refine y_pcall C (m_X1_longestChain (l := l) (D := D) (cA := cA) (cB := cB) (h := h) (a0 := a0) (a1 := a1) (a2 := a2) (a3 := a3) (a4 := a4) (a5 := a5) (per := u 0) (win := u 2) (cr := u 3) (ch := ch4_13) (by first | assumption | omega | exact ⟨by omega, by omega⟩)) lk_X5_170 [1, 7] [0, 2, 3, 4, 5, 6, 8, 9, 10, 11, 12] [0, 11, 1, 2, 3, 4, 5, 12, 6, 7, 8, 9, 10] ⟨rfl, rfl, by decide, by decide, by decide⟩ ⟨rfl, by decide⟩ rfl rfl dX5_row_64 rfl rfl ⟨by exact Nat.le_of_ble_eq_true rfl, by exact Nat.le_of_ble_eq_true rfl, rfl, rfl, by exact Nat.le_of_ble_eq_true rfl, by exact Nat.le_of_ble_eq_true rfl, by exact Nat.le_of_ble_eq_true rfl⟩ (fun r_17 h_16 => ?_)
          have hv := h_16
          refine hret _ _ _ _ dX5_row_67 ⟨(u 0), (u 2), (u 3), p4_8, d4_9, mm4_10, sn4_11, bd4_12, ch4_13, rfl, ?_⟩
          show (r_17 = ansRow u row wh) ∧ (∀ k : Int, 0 ≤ k → k < 32 → 0 ≤ bd4_12 k ∧ bd4_12 k ≤ 32)
          refine ⟨?_, hb5⟩
          unfold ansRow rowZ
          rw [if_pos (by omega), if_pos (by omega), hv.1]
          exact maxZ_congr (fun q a b => zcnt_congr (fun k c d => by rw [hc4 k c d]))
        · refine y_tin C 68 1 dX5_row_32 ⟨by omega, by omega⟩ ⟨by omega, by omega⟩ (by omega) rfl (by decide) ?_
          refine y_aload_n C 0 dX5_row_68 rfl ?_
          refine y_get C fg_X5_36 0 dX5_row_69 rfl rfl ?_
          refine y_pcall C (m_X1_differentDots (l := l) (D := D) (cA := cA) (cB := cB) (h := h) (a0 := a0) (a1 := a1) (a2 := a2) (a3 := a3) (a4 := a4) (a5 := a5) (per := u 0) (win := u 2) (cr := u 3) (d := d4_9) (by first | assumption | omega | exact ⟨by omega, by omega⟩)) lk_X5_173 [1, 3] [0, 2, 4, 5, 6, 7, 8, 9, 10, 11, 12] [0, 11, 1, 12, 2, 3, 4, 5, 6, 7, 8, 9, 10] ⟨rfl, rfl, by decide, by decide, by decide⟩ ⟨rfl, by decide⟩ rfl rfl dX5_row_72 rfl rfl ⟨by exact Nat.le_of_ble_eq_true rfl, by exact Nat.le_of_ble_eq_true rfl, rfl, rfl, by exact Nat.le_of_ble_eq_true rfl, by exact Nat.le_of_ble_eq_true rfl, by exact Nat.le_of_ble_eq_true rfl⟩ (fun r_19 h_18 => ?_)
          have hv := h_18
          refine hret _ _ _ _ dX5_row_75 ⟨(u 0), (u 2), (u 3), p4_8, d4_9, mm4_10, sn4_11, bd4_12, ch4_13, rfl, ?_⟩
          show (r_19 = ansRow u row wh) ∧ (∀ k : Int, 0 ≤ k → k < 32 → 0 ≤ bd4_12 k ∧ bd4_12 k ≤ 32)
          refine ⟨?_, hb5⟩
          unfold ansRow rowZ
          rw [if_pos (by omega), if_neg (by omega), if_pos (by omega), hv.1]
          exact dotsD_of hd4
        · refine y_tin C 76 2 dX5_row_32 ⟨by omega, by omega⟩ ⟨by omega, by omega⟩ (by omega) rfl (by decide) ?_
          refine y_aload_n C 0 dX5_row_76 rfl ?_
          refine y_get C fg_X5_36 0 dX5_row_77 rfl rfl ?_
          refine y_pcall C (m_X1_changesOfPlane (l := l) (D := D) (cA := cA) (cB := cB) (h := h) (a0 := a0) (a1 := a1) (a2 := a2) (a3 := a3) (a4 := a4) (a5 := a5) (per := u 0) (win := u 2) (cr := u 3) (sn := sn4_11) (by first | assumption | omega | exact ⟨by omega, by omega⟩)) lk_X5_176 [1, 5] [0, 2, 3, 4, 6, 7, 8, 9, 10, 11, 12] [0, 11, 1, 2, 3, 12, 4, 5, 6, 7, 8, 9, 10] ⟨rfl, rfl, by decide, by decide, by decide⟩ ⟨rfl, by decide⟩ rfl rfl dX5_row_80 rfl rfl ⟨by exact Nat.le_of_ble_eq_true rfl, by exact Nat.le_of_ble_eq_true rfl, rfl, rfl, by exact Nat.le_of_ble_eq_true rfl, by exact Nat.le_of_ble_eq_true rfl, by exact Nat.le_of_ble_eq_true rfl⟩ (fun r_21 h_20 => ?_)
          have hv := h_20
          refine hret _ _ _ _ dX5_row_83 ⟨(u 0), (u 2), (u 3), p4_8, d4_9, mm4_10, sn4_11, bd4_12, ch4_13, rfl, ?_⟩
          show (r_21 = ansRow u row wh) ∧ (∀ k : Int, 0 ≤ k → k < 32 → 0 ≤ bd4_12 k ∧ bd4_12 k ≤ 32)
          refine ⟨?_, hb5⟩
          unfold ansRow rowZ
          rw [if_pos (by omega), if_neg (by omega), if_neg (by omega), if_pos (by omega), hv.1]
          exact zcnt_congr (fun k c d => chgP_congr c (fun j e f => hs4 j e (by omega)))
        · refine y_tout C 84 dX5_row_32 ⟨by omega, by omega⟩ (by omega) (by decide) ?_
          refine y_aload_n C 0 dX5_row_84 rfl ?_
          refine y_get C fg_X5_36 0 dX5_row_85 rfl rfl ?_
          refine y_iload_n C 2 dX5_row_88 rfl ?_
          refine y_pcall C (m_X1_placesOfKind (l := l) (D := D) (cA := cA) (cB := cB) (h := h) (a0 := a0) (a1 := a1) (a2 := a2) (a3 := a3) (a4 := a4) (a5 := a5) (per := u 0) (win := u 2) (cr := u 3) (p := p4_8) (d := d4_9) (mm := mm4_10) (sn := sn4_11) (bd := bd4_12) (kind := wh) (by first | assumption | omega | exact ⟨by omega, by omega⟩) (by first | assumption | omega | exact ⟨by omega, by omega⟩) (by first | assumption | omega | exact ⟨by omega, by omega⟩) (by first | assumption | omega | exact ⟨by omega, by omega⟩) (by first | assumption | omega | exact ⟨by omega, by omega⟩) (by first | assumption | omega | exact ⟨by omega, by omega⟩) (by first | assumption | omega | exact ⟨by omega, by omega⟩)) lk_X5_179 [1, 2, 3, 4, 5, 6] [0, 7, 8, 9, 10, 11, 12] [0, 7, 8, 9, 10, 11, 12, 1, 2, 3, 4, 5, 6] ⟨rfl, rfl, by decide, by decide, by decide⟩ ⟨rfl, by decide⟩ rfl rfl dX5_row_89 rfl rfl ⟨by exact Nat.le_of_ble_eq_true rfl, by exact Nat.le_of_ble_eq_true rfl, rfl, rfl, by exact Nat.le_of_ble_eq_true rfl, by exact Nat.le_of_ble_eq_true rfl, by exact Nat.le_of_ble_eq_true rfl⟩ (fun r_23 h_22 => ?_)
          have hv := h_22
          refine hret _ _ _ _ dX5_row_92 ⟨(u 0), (u 2), (u 3), p4_8, d4_9, mm4_10, sn4_11, bd4_12, ch4_13, rfl, ?_⟩
          show (r_23 = ansRow u row wh) ∧ (∀ k : Int, 0 ≤ k → k < 32 → 0 ≤ bd4_12 k ∧ bd4_12 k ≤ 32)
          refine ⟨?_, hb5⟩
          unfold ansRow rowZ
          rw [if_pos (by omega), if_neg (by omega), if_neg (by omega), if_neg (by omega), hv.1]
          exact kndR_of hp4 hd4 hm4 hs4 hb4 hpu
      · refine y_iconst C dX5_row_17 ?_
        refine hret _ _ _ _ dX5_row_18 ⟨per, win, cr, p, d, mm, sn, bd, ch, rfl, ?_⟩
        show ((-1) = ansRow u row wh) ∧ (∀ k : Int, 0 ≤ k → k < 32 → 0 ≤ bd k ∧ bd k ≤ 32)
        refine ⟨?_, hbd⟩
        unfold ansRow
        rw [if_neg (by omega)]

set_option maxHeartbeats 4000000 in
set_option maxRecDepth 100000 in
theorem m_X5_echo {l : Launch} {D : va_G} {cA cB : ClassId} {x ss hh pd g vw rk : Nat} {has : Int} {h a0 a1 a2 a3 a4 a5 : Nat} {per win cr : Int} {p d mm sn bd ch : Int → Int} {s b0 b1 b2 b3 b4 : Nat} {len lot : Int} {u P Q M S T : Int → Int} {row e : Int} (hzrow : zR row) (hze : zR e) (hbd : ∀ k : Int, 0 ≤ k → k < 32 → 0 ≤ bd k ∧ bd k ≤ 32) (hrel : Rel u S P Q M T len lot) : MI l yX5_echo cX5_echo 3 .int { frames := 2, cells := 0, slots := 0, locals := 45 } D (zT cA cB) [.ref x, .int (zI row), .int (zI e)] [cO x 5 [.ref s, .ref ss, .int (zI has), .ref hh, .ref pd, .ref h, .ref g, .ref vw, .ref rk], cO h 1 [.ref a0, .ref a1, .ref a2, .ref a3, .ref a4, .ref a5, .int (zI per), .int (zI win), .int (zI cr)], cI cA a0 32 p, cI cA a1 32 d, cI cA a2 32 mm, cI cA a3 32 sn, cI cA a4 32 bd, cI cA a5 32 ch, cO s 4 [.ref b0, .ref b1, .ref b2, .ref b3, .ref b4, .int (zI len), .int (zI lot)], cI cA b0 256 P, cI cA b1 256 Q, cI cA b2 256 M, cI cA b3 6 S] (fun r w => ∃ (perx : Int), ∃ (winx : Int), ∃ (crx : Int), ∃ (px : Int → Int), ∃ (dx : Int → Int), ∃ (mmx : Int → Int), ∃ (snx : Int → Int), ∃ (bdx : Int → Int), ∃ (chx : Int → Int), w = [cO x 5 [.ref s, .ref ss, .int (zI has), .ref hh, .ref pd, .ref h, .ref g, .ref vw, .ref rk], cO h 1 [.ref a0, .ref a1, .ref a2, .ref a3, .ref a4, .ref a5, .int (zI perx), .int (zI winx), .int (zI crx)], cI cA a0 32 px, cI cA a1 32 dx, cI cA a2 32 mmx, cI cA a3 32 snx, cI cA a4 32 bdx, cI cA a5 32 chx, cO s 4 [.ref b0, .ref b1, .ref b2, .ref b3, .ref b4, .int (zI len), .int (zI lot)], cI cA b0 256 P, cI cA b1 256 Q, cI cA b2 256 M, cI cA b3 6 S] ∧ (r = ansEcho u row e) ∧ (∀ k : Int, 0 ≤ k → k < 32 → 0 ≤ bdx k ∧ bdx k ≤ 32)) := by
  refine MI.of RX5 ⟨rfl, by decide +kernel⟩ (Or.inl rfl) (Nat.le_of_ble_eq_true rfl) (fun h => by cases h) ?_
  intro K C hret
  change K 0 0 _ [(0, .ref x), (1, .int (zI row)), (2, .int (zI e))] 0 []
  have hRS := hrel.S
  have hRP := hrel.P
  have hRQ := hrel.Q
  have hRM := hrel.M
  have hu := hRS.2
  have hzrow1 := hzrow.1
  have hzrow2 := hzrow.2
  have hze1 := hze.1
  have hze2 := hze.2
  refine y_iload_n C 1 dX5_echo_0 rfl ?_
  refine y_pcalls C (m_X5_isRow (l := l) (D := D) (cA := cA) (cB := cB) (x := row) (by first | assumption | omega | exact ⟨by omega, by omega⟩)) lk_X5_50 [] [0, 1, 2, 3, 4, 5, 6, 7, 8, 9, 10, 11, 12] [0, 1, 2, 3, 4, 5, 6, 7, 8, 9, 10, 11, 12] ⟨rfl, rfl, by decide, by decide, by decide⟩ ⟨rfl, by decide⟩ dX5_echo_1 rfl rfl ⟨by exact Nat.le_of_ble_eq_true rfl, by exact Nat.le_of_ble_eq_true rfl, rfl, rfl, by exact Nat.le_of_ble_eq_true rfl, by exact Nat.le_of_ble_eq_true rfl, by exact Nat.le_of_ble_eq_true rfl⟩ (fun r_2 h_1 => ?_)
  refine y_if_eq C 18 dX5_echo_4 (by decide) ⟨by omega, by omega⟩ (fun c_3 => ?_) (fun c_3 => ?_)
  · refine y_iconst C dX5_echo_18 ?_
    refine hret _ _ _ _ dX5_echo_19 ⟨per, win, cr, p, d, mm, sn, bd, ch, rfl, ?_⟩
    show ((-1) = ansEcho u row e) ∧ (∀ k : Int, 0 ≤ k → k < 32 → 0 ≤ bd k ∧ bd k ≤ 32)
    refine ⟨?_, hbd⟩
    unfold ansEcho
    rw [if_neg (by omega)]
  · refine y_iload_n C 2 dX5_echo_7 rfl ?_
    refine y_iconst C dX5_echo_8 ?_
    refine y_icmp_lt C 18 dX5_echo_9 (by decide) ⟨⟨by omega, by omega⟩, ⟨by omega, by omega⟩⟩ (fun c_4 => ?_) (fun c_4 => ?_)
    · refine y_iconst C dX5_echo_18 ?_
      refine hret _ _ _ _ dX5_echo_19 ⟨per, win, cr, p, d, mm, sn, bd, ch, rfl, ?_⟩
      show ((-1) = ansEcho u row e) ∧ (∀ k : Int, 0 ≤ k → k < 32 → 0 ≤ bd k ∧ bd k ≤ 32)
      refine ⟨?_, hbd⟩
      unfold ansEcho
      rw [if_neg (by omega)]
    · refine y_iload_n C 2 dX5_echo_12 rfl ?_
      refine y_bipush C dX5_echo_13 (by decide +kernel) ?_
      refine y_icmp_le C 20 dX5_echo_15 (by decide) ⟨⟨by omega, by omega⟩, ⟨by omega, by omega⟩⟩ (fun c_5 => ?_) (fun c_5 => ?_)
      · refine y_aload_n C 0 dX5_echo_20 rfl ?_
        refine y_get C fg_X5_36 0 dX5_echo_21 rfl rfl ?_
        refine y_aload_n C 0 dX5_echo_24 rfl ?_
        refine y_get C fg_X5_12 0 dX5_echo_25 rfl rfl ?_
        refine y_iload_n C 1 dX5_echo_28 rfl ?_
        refine y_mcallv C (m_X1_takeRow (l := l) (D := D) (cA := cA) (cB := cB) (h := h) (a0 := a0) (a1 := a1) (a2 := a2) (a3 := a3) (a4 := a4) (a5 := a5) (per := per) (win := win) (cr := cr) (s := s) (b0 := b0) (b1 := b1) (b2 := b2) (b3 := b3) (b4 := b4) (len := len) (lot := lot) (p := p) (d := d) (mm := mm) (P := P) (Q := Q) (M := M) (S := S) (row := row) (by first | assumption | omega | exact ⟨by omega, by omega⟩) (by first | assumption | omega | exact ⟨by omega, by omega⟩) (by first | assumption | omega | exact ⟨by omega, by omega⟩) (by first | assumption | omega | exact ⟨by omega, by omega⟩) (by first | assumption | omega | exact ⟨by omega, by omega⟩)) lk_X5_72 [1, 2, 3, 4, 8, 9, 10, 11, 12] [0, 5, 6, 7] ⟨rfl, rfl, by decide, by decide, by decide⟩ (jb := 0) rfl rfl dX5_echo_29 rfl rfl ⟨by exact Nat.le_of_ble_eq_true rfl, by exact Nat.le_of_ble_eq_true rfl, rfl, rfl, by exact Nat.le_of_ble_eq_true rfl, by exact Nat.le_of_ble_eq_true rfl, by exact Nat.le_of_ble_eq_true rfl⟩ (fun w_11 h_6 => ?_)
        obtain ⟨p2_8, d2_9, mm2_10, rfl, h_6⟩ := h_6
        refine ⟨[0, 4, 5, 6, 7, 1, 2, 3, 8, 9, 10, 11, 12], [cO x 5 [.ref s, .ref ss, .int (zI has), .ref hh, .ref pd, .ref h, .ref g, .ref vw, .ref rk], cO h 1 [.ref a0, .ref a1, .ref a2, .ref a3, .ref a4, .ref a5, .int (zI (u 0)), .int (zI (u 2)), .int (zI (u 3))], cI cA a0 32 p2_8, cI cA a1 32 d2_9, cI cA a2 32 mm2_10, cI cA a3 32 sn, cI cA a4 32 bd, cI cA a5 32 ch, cO s 4 [.ref b0, .ref b1, .ref b2, .ref b3, .ref b4, .int (zI len), .int (zI lot)], cI cA b0 256 P, cI cA b1 256 Q, cI cA b2 256 M, cI cA b3 6 S], ⟨rfl, by decide⟩, ?_⟩
        obtain ⟨hp4, hd4, hm4⟩ := h_6
        have hp5 : ∀ k : Int, 0 ≤ k → k < 32 → 0 ≤ p2_8 k ∧ p2_8 k ≤ 4 := fun k h0 h1 => by rw [hp4 k h0 h1]; exact (zp_of hRP (by omega) h0 h1).2
        have hd5 : ∀ k : Int, 0 ≤ k → k < 32 → 0 ≤ d2_9 k ∧ d2_9 k ≤ 7 := fun k h0 h1 => by rw [hd4 k h0 h1]; exact (zd_of hRQ (by omega) h0 h1).2
        have hm5 : ∀ k : Int, 0 ≤ k → k < 32 → -4 ≤ mm2_10 k ∧ mm2_10 k ≤ 7 := fun k h0 h1 => by rw [hm4 k h0 h1]; exact (zk_of hRM (by omega) h0 h1).2
        have hpu : ∀ k : Int, 0 ≤ k → k < 32 → p2_8 k < u 0 := fun k h0 h1 => by have := hp5 k h0 h1; omega
        refine y_aload_n C 0 dX5_echo_32 rfl ?_
        refine y_get C fg_X5_36 0 dX5_echo_33 rfl rfl ?_
        refine y_iload_n C 2 dX5_echo_36 rfl ?_
        refine y_pcall C (m_X1_echoOf (l := l) (D := D) (cA := cA) (cB := cB) (h := h) (a0 := a0) (a1 := a1) (a2 := a2) (a3 := a3) (a4 := a4) (a5 := a5) (per := u 0) (win := u 2) (cr := u 3) (d := d2_9) (e := e) (by first | assumption | omega | exact ⟨by omega, by omega⟩) (by first | assumption | omega | exact ⟨by omega, by omega⟩)) lk_X5_182 [1, 3] [0, 2, 4, 5, 6, 7, 8, 9, 10, 11, 12] [0, 11, 1, 12, 2, 3, 4, 5, 6, 7, 8, 9, 10] ⟨rfl, rfl, by decide, by decide, by decide⟩ ⟨rfl, by decide⟩ rfl rfl dX5_echo_37 rfl rfl ⟨by exact Nat.le_of_ble_eq_true rfl, by exact Nat.le_of_ble_eq_true rfl, rfl, rfl, by exact Nat.le_of_ble_eq_true rfl, by exact Nat.le_of_ble_eq_true rfl, by exact Nat.le_of_ble_eq_true rfl⟩ (fun r_13 h_12 => ?_)
        have hv := h_12
        refine hret _ _ _ _ dX5_echo_40 ⟨(u 0), (u 2), (u 3), p2_8, d2_9, mm2_10, sn, bd, ch, rfl, ?_⟩
        show (r_13 = ansEcho u row e) ∧ (∀ k : Int, 0 ≤ k → k < 32 → 0 ≤ bd k ∧ bd k ≤ 32)
        refine ⟨?_, hbd⟩
        unfold ansEcho ecZ
        rw [if_pos (by omega), hv.1]
        exact zcnt_congr (fun k a b => by constructor <;> rintro ⟨h1, h2⟩ <;> refine ⟨h1, ?_⟩; rw [← hd4 k a b, ← hd4 (k - e) (by omega) (by omega)]; exact h2; rw [hd4 k a b, hd4 (k - e) (by omega) (by omega)]; exact h2)
      · refine y_iconst C dX5_echo_18 ?_
        refine hret _ _ _ _ dX5_echo_19 ⟨per, win, cr, p, d, mm, sn, bd, ch, rfl, ?_⟩
        show ((-1) = ansEcho u row e) ∧ (∀ k : Int, 0 ≤ k → k < 32 → 0 ≤ bd k ∧ bd k ≤ 32)
        refine ⟨?_, hbd⟩
        unfold ansEcho
        rw [if_neg (by omega)]

set_option maxHeartbeats 4000000 in
set_option maxRecDepth 100000 in
theorem m_X5_echoAt {l : Launch} {D : va_G} {cA cB : ClassId} {x ss hh pd g vw rk : Nat} {has : Int} {h a0 a1 a2 a3 a4 a5 : Nat} {per win cr : Int} {p d mm sn bd ch : Int → Int} {s b0 b1 b2 b3 b4 : Nat} {len lot : Int} {u P Q M S T ra : Int → Int} {row pl : Int} (hzrow : zR row) (hzpl : zR pl) (hbd : ∀ k : Int, 0 ≤ k → k < 32 → 0 ≤ bd k ∧ bd k ≤ 32) (hra : ∀ k : Int, 0 ≤ k → k < 23 → 0 ≤ ra k ∧ ra k ≤ 5000) (hrel : Rel u S P Q M T len lot) : MI l yX5_echoAt cX5_echoAt 4 .int { frames := 2, cells := 0, slots := 0, locals := 47 } D (zT cA cB) [.ref x, .int (zI row), .int (zI pl)] [cO x 5 [.ref s, .ref ss, .int (zI has), .ref hh, .ref pd, .ref h, .ref g, .ref vw, .ref rk], cO h 1 [.ref a0, .ref a1, .ref a2, .ref a3, .ref a4, .ref a5, .int (zI per), .int (zI win), .int (zI cr)], cI cA a0 32 p, cI cA a1 32 d, cI cA a2 32 mm, cI cA a3 32 sn, cI cA a4 32 bd, cI cA a5 32 ch, cI cA rk 23 ra, cO s 4 [.ref b0, .ref b1, .ref b2, .ref b3, .ref b4, .int (zI len), .int (zI lot)], cI cA b0 256 P, cI cA b1 256 Q, cI cA b2 256 M, cI cA b3 6 S] (fun r w => ∃ (perx : Int), ∃ (winx : Int), ∃ (crx : Int), ∃ (px : Int → Int), ∃ (dx : Int → Int), ∃ (mmx : Int → Int), ∃ (snx : Int → Int), ∃ (bdx : Int → Int), ∃ (chx : Int → Int), ∃ (rax : Int → Int), w = [cO x 5 [.ref s, .ref ss, .int (zI has), .ref hh, .ref pd, .ref h, .ref g, .ref vw, .ref rk], cO h 1 [.ref a0, .ref a1, .ref a2, .ref a3, .ref a4, .ref a5, .int (zI perx), .int (zI winx), .int (zI crx)], cI cA a0 32 px, cI cA a1 32 dx, cI cA a2 32 mmx, cI cA a3 32 snx, cI cA a4 32 bdx, cI cA a5 32 chx, cI cA rk 23 rax, cO s 4 [.ref b0, .ref b1, .ref b2, .ref b3, .ref b4, .int (zI len), .int (zI lot)], cI cA b0 256 P, cI cA b1 256 Q, cI cA b2 256 M, cI cA b3 6 S] ∧ (r = ansEchoAt u row pl) ∧ (∀ k : Int, 0 ≤ k → k < 32 → 0 ≤ bdx k ∧ bdx k ≤ 32) ∧ (∀ k : Int, 0 ≤ k → k < 23 → 0 ≤ rax k ∧ rax k ≤ 5000)) := by
  refine MI.of RX5 ⟨rfl, by decide +kernel⟩ (Or.inl rfl) (Nat.le_of_ble_eq_true rfl) (fun h => by cases h) ?_
  intro K C hret
  change K 0 0 _ [(0, .ref x), (1, .int (zI row)), (2, .int (zI pl))] 0 []
  have hRS := hrel.S
  have hRP := hrel.P
  have hRQ := hrel.Q
  have hRM := hrel.M
  have hu := hRS.2
  have hzrow1 := hzrow.1
  have hzrow2 := hzrow.2
  have hzpl1 := hzpl.1
  have hzpl2 := hzpl.2
  refine y_iload_n C 1 dX5_echoAt_0 rfl ?_
  refine y_pcalls C (m_X5_isRow (l := l) (D := D) (cA := cA) (cB := cB) (x := row) (by first | assumption | omega | exact ⟨by omega, by omega⟩)) lk_X5_50 [] [0, 1, 2, 3, 4, 5, 6, 7, 8, 9, 10, 11, 12, 13] [0, 1, 2, 3, 4, 5, 6, 7, 8, 9, 10, 11, 12, 13] ⟨rfl, rfl, by decide, by decide, by decide⟩ ⟨rfl, by decide⟩ dX5_echoAt_1 rfl rfl ⟨by exact Nat.le_of_ble_eq_true rfl, by exact Nat.le_of_ble_eq_true rfl, rfl, rfl, by exact Nat.le_of_ble_eq_true rfl, by exact Nat.le_of_ble_eq_true rfl, by exact Nat.le_of_ble_eq_true rfl⟩ (fun r_2 h_1 => ?_)
  refine y_if_eq C 17 dX5_echoAt_4 (by decide) ⟨by omega, by omega⟩ (fun c_3 => ?_) (fun c_3 => ?_)
  · refine y_iconst C dX5_echoAt_17 ?_
    refine hret _ _ _ _ dX5_echoAt_18 ⟨per, win, cr, p, d, mm, sn, bd, ch, ra, rfl, ?_⟩
    show ((-1) = ansEchoAt u row pl) ∧ (∀ k : Int, 0 ≤ k → k < 32 → 0 ≤ bd k ∧ bd k ≤ 32) ∧ (∀ k : Int, 0 ≤ k → k < 23 → 0 ≤ ra k ∧ ra k ≤ 5000)
    refine ⟨?_, hbd, hra⟩
    unfold ansEchoAt
    rw [if_neg (by omega)]
  · refine y_iload_n C 2 dX5_echoAt_7 rfl ?_
    refine y_if_lt C 17 dX5_echoAt_8 (by decide) ⟨by omega, by omega⟩ (fun c_4 => ?_) (fun c_4 => ?_)
    · refine y_iconst C dX5_echoAt_17 ?_
      refine hret _ _ _ _ dX5_echoAt_18 ⟨per, win, cr, p, d, mm, sn, bd, ch, ra, rfl, ?_⟩
      show ((-1) = ansEchoAt u row pl) ∧ (∀ k : Int, 0 ≤ k → k < 32 → 0 ≤ bd k ∧ bd k ≤ 32) ∧ (∀ k : Int, 0 ≤ k → k < 23 → 0 ≤ ra k ∧ ra k ≤ 5000)
      refine ⟨?_, hbd, hra⟩
      unfold ansEchoAt
      rw [if_neg (by omega)]
    · refine y_iload_n C 2 dX5_echoAt_11 rfl ?_
      refine y_bipush C dX5_echoAt_12 (by decide +kernel) ?_
      refine y_icmp_lt C 19 dX5_echoAt_14 (by decide) ⟨⟨by omega, by omega⟩, ⟨by omega, by omega⟩⟩ (fun c_5 => ?_) (fun c_5 => ?_)
      · refine y_aload_n C 0 dX5_echoAt_19 rfl ?_
        refine y_get C fg_X5_36 0 dX5_echoAt_20 rfl rfl ?_
        refine y_aload_n C 0 dX5_echoAt_23 rfl ?_
        refine y_get C fg_X5_12 0 dX5_echoAt_24 rfl rfl ?_
        refine y_iload_n C 1 dX5_echoAt_27 rfl ?_
        refine y_mcallv C (m_X1_takeRow (l := l) (D := D) (cA := cA) (cB := cB) (h := h) (a0 := a0) (a1 := a1) (a2 := a2) (a3 := a3) (a4 := a4) (a5 := a5) (per := per) (win := win) (cr := cr) (s := s) (b0 := b0) (b1 := b1) (b2 := b2) (b3 := b3) (b4 := b4) (len := len) (lot := lot) (p := p) (d := d) (mm := mm) (P := P) (Q := Q) (M := M) (S := S) (row := row) (by first | assumption | omega | exact ⟨by omega, by omega⟩) (by first | assumption | omega | exact ⟨by omega, by omega⟩) (by first | assumption | omega | exact ⟨by omega, by omega⟩) (by first | assumption | omega | exact ⟨by omega, by omega⟩) (by first | assumption | omega | exact ⟨by omega, by omega⟩)) lk_X5_72 [1, 2, 3, 4, 9, 10, 11, 12, 13] [0, 5, 6, 7, 8] ⟨rfl, rfl, by decide, by decide, by decide⟩ (jb := 0) rfl rfl dX5_echoAt_28 rfl rfl ⟨by exact Nat.le_of_ble_eq_true rfl, by exact Nat.le_of_ble_eq_true rfl, rfl, rfl, by exact Nat.le_of_ble_eq_true rfl, by exact Nat.le_of_ble_eq_true rfl, by exact Nat.le_of_ble_eq_true rfl⟩ (fun w_11 h_6 => ?_)
        obtain ⟨p2_8, d2_9, mm2_10, rfl, h_6⟩ := h_6
        refine ⟨[0, 5, 6, 7, 8, 1, 2, 3, 4, 9, 10, 11, 12, 13], [cO x 5 [.ref s, .ref ss, .int (zI has), .ref hh, .ref pd, .ref h, .ref g, .ref vw, .ref rk], cO h 1 [.ref a0, .ref a1, .ref a2, .ref a3, .ref a4, .ref a5, .int (zI (u 0)), .int (zI (u 2)), .int (zI (u 3))], cI cA a0 32 p2_8, cI cA a1 32 d2_9, cI cA a2 32 mm2_10, cI cA a3 32 sn, cI cA a4 32 bd, cI cA a5 32 ch, cI cA rk 23 ra, cO s 4 [.ref b0, .ref b1, .ref b2, .ref b3, .ref b4, .int (zI len), .int (zI lot)], cI cA b0 256 P, cI cA b1 256 Q, cI cA b2 256 M, cI cA b3 6 S], ⟨rfl, by decide⟩, ?_⟩
        obtain ⟨hp4, hd4, hm4⟩ := h_6
        have hp5 : ∀ k : Int, 0 ≤ k → k < 32 → 0 ≤ p2_8 k ∧ p2_8 k ≤ 4 := fun k h0 h1 => by rw [hp4 k h0 h1]; exact (zp_of hRP (by omega) h0 h1).2
        have hd5 : ∀ k : Int, 0 ≤ k → k < 32 → 0 ≤ d2_9 k ∧ d2_9 k ≤ 7 := fun k h0 h1 => by rw [hd4 k h0 h1]; exact (zd_of hRQ (by omega) h0 h1).2
        have hm5 : ∀ k : Int, 0 ≤ k → k < 32 → -4 ≤ mm2_10 k ∧ mm2_10 k ≤ 7 := fun k h0 h1 => by rw [hm4 k h0 h1]; exact (zk_of hRM (by omega) h0 h1).2
        have hpu : ∀ k : Int, 0 ≤ k → k < 32 → p2_8 k < u 0 := fun k h0 h1 => by have := hp5 k h0 h1; omega
        refine y_iconst C dX5_echoAt_31 ?_
        refine y_istore_n C [(3, .int (zI 0)), (0, .ref x), (1, .int (zI row)), (2, .int (zI pl))] dX5_echoAt_32 (by decide) rfl ?_
        refine y_lsub C [1, 2, 3, 0] (lv' := [(0, .ref x), (1, .int (zI row)), (2, .int (zI pl)), (3, .int (zI 0))]) rfl ?_
        suffices hL33 : ∀ (fu : Nat) (i : Int) (ra1 : Int → Int), (0 ≤ i ∧ i ≤ 23) → (∀ k : Int, 0 ≤ k → k < 23 → 0 ≤ ra1 k ∧ ra1 k ≤ 5000) → (∀ k : Int, 0 ≤ k → k < i → ra1 k = ecZ u row (2 + k)) → (32 - i).toNat < fu → K 0 0 [cO x 5 [.ref s, .ref ss, .int (zI has), .ref hh, .ref pd, .ref h, .ref g, .ref vw, .ref rk], cO h 1 [.ref a0, .ref a1, .ref a2, .ref a3, .ref a4, .ref a5, .int (zI (u 0)), .int (zI (u 2)), .int (zI (u 3))], cI cA a0 32 p2_8, cI cA a1 32 d2_9, cI cA a2 32 mm2_10, cI cA a3 32 sn, cI cA a4 32 bd, cI cA a5 32 ch, cI cA rk 23 ra1, cO s 4 [.ref b0, .ref b1, .ref b2, .ref b3, .ref b4, .int (zI len), .int (zI lot)], cI cA b0 256 P, cI cA b1 256 Q, cI cA b2 256 M, cI cA b3 6 S] [(0, .ref x), (1, .int (zI row)), (2, .int (zI pl)), (3, .int (zI i))] 33 [] from hL33 _ 0 ra (by omega) (by exact hra) (by intro k a b; omega) (Nat.lt_succ_self _)
        intro f33
        induction f33 with
        | zero => exact fun _ _ _ _ _ hf => absurd hf (Nat.not_lt_zero _)
        | succ f33 ih33 =>
          intro i ra1 hi hr1 hr2 hf33
          refine y_iload_n C 3 dX5_echoAt_33 rfl ?_
          refine y_bipush C dX5_echoAt_34 (by decide +kernel) ?_
          refine y_icmp_ge C 61 dX5_echoAt_36 (by decide) ⟨⟨by omega, by omega⟩, ⟨by omega, by omega⟩⟩ (fun c_12 => ?_) (fun c_12 => ?_)
          · refine y_iconst C dX5_echoAt_61 ?_
            refine y_aload_n C 0 dX5_echoAt_62 rfl ?_
            refine y_bipush C dX5_echoAt_63 (by decide +kernel) ?_
            refine y_iload_n C 2 dX5_echoAt_65 rfl ?_
            refine y_pcall C (m_X5_rankedAt (l := l) (D := D) (cA := cA) (cB := cB) (x := x) (ss := ss) (hh := hh) (pd := pd) (g := g) (vw := vw) (rk := rk) (has := has) (s := s) (h := h) (ra := ra1) (m := 23) (pl := pl) (by first | assumption | omega | exact ⟨by omega, by omega⟩) (by first | assumption | omega | exact ⟨by omega, by omega⟩) (by first | assumption | omega | exact ⟨by omega, by omega⟩)) lk_X5_185 [0, 8] [1, 2, 3, 4, 5, 6, 7, 9, 10, 11, 12, 13] [12, 0, 1, 2, 3, 4, 5, 6, 13, 7, 8, 9, 10, 11] ⟨rfl, rfl, by decide, by decide, by decide⟩ ⟨rfl, by decide⟩ rfl rfl dX5_echoAt_66 rfl rfl ⟨by exact Nat.le_of_ble_eq_true rfl, by exact Nat.le_of_ble_eq_true rfl, rfl, rfl, by exact Nat.le_of_ble_eq_true rfl, by exact Nat.le_of_ble_eq_true rfl, by exact Nat.le_of_ble_eq_true rfl⟩ (fun r_14 h_13 => ?_)
            have hq := h_13
            refine y_iadd C dX5_echoAt_69 ?_
            refine hret _ _ _ _ dX5_echoAt_70 ⟨(u 0), (u 2), (u 3), p2_8, d2_9, mm2_10, sn, bd, ch, ra1, rfl, ?_⟩
            show ((2 + r_14) = ansEchoAt u row pl) ∧ (∀ k : Int, 0 ≤ k → k < 32 → 0 ≤ bd k ∧ bd k ≤ 32) ∧ (∀ k : Int, 0 ≤ k → k < 23 → 0 ≤ ra1 k ∧ ra1 k ≤ 5000)
            refine ⟨?_, hbd, hr1⟩
            unfold ansEchoAt echoAtZ
            rw [if_pos (by omega), hq.1, pickZ_congr (g := fun i => ecZ u row (2 + i)) (fun k a b => hr2 k a (by omega))]
          · refine y_aload_n C 0 dX5_echoAt_39 rfl ?_
            refine y_get C fg_X5_47 0 dX5_echoAt_40 rfl rfl ?_
            refine y_iload_n C 3 dX5_echoAt_43 rfl ?_
            refine y_aload_n C 0 dX5_echoAt_44 rfl ?_
            refine y_get C fg_X5_36 0 dX5_echoAt_45 rfl rfl ?_
            refine y_iconst C dX5_echoAt_48 ?_
            refine y_iload_n C 3 dX5_echoAt_49 rfl ?_
            refine y_iadd C dX5_echoAt_50 ?_
            refine y_pcall C (m_X1_echoOf (l := l) (D := D) (cA := cA) (cB := cB) (h := h) (a0 := a0) (a1 := a1) (a2 := a2) (a3 := a3) (a4 := a4) (a5 := a5) (per := u 0) (win := u 2) (cr := u 3) (d := d2_9) (e := 2 + i) (by first | assumption | omega | exact ⟨by omega, by omega⟩) (by first | assumption | omega | exact ⟨by omega, by omega⟩)) lk_X5_182 [1, 3] [0, 2, 4, 5, 6, 7, 8, 9, 10, 11, 12, 13] [0, 12, 1, 13, 2, 3, 4, 5, 6, 7, 8, 9, 10, 11] ⟨rfl, rfl, by decide, by decide, by decide⟩ ⟨rfl, by decide⟩ rfl rfl dX5_echoAt_51 rfl rfl ⟨by exact Nat.le_of_ble_eq_true rfl, by exact Nat.le_of_ble_eq_true rfl, rfl, rfl, by exact Nat.le_of_ble_eq_true rfl, by exact Nat.le_of_ble_eq_true rfl, by exact Nat.le_of_ble_eq_true rfl⟩ (fun r_16 h_15 => ?_)
            have hv := h_15
            refine y_iast C 8 0 [cO x 5 [.ref s, .ref ss, .int (zI has), .ref hh, .ref pd, .ref h, .ref g, .ref vw, .ref rk], cO h 1 [.ref a0, .ref a1, .ref a2, .ref a3, .ref a4, .ref a5, .int (zI (u 0)), .int (zI (u 2)), .int (zI (u 3))], cI cA a0 32 p2_8, cI cA a1 32 d2_9, cI cA a2 32 mm2_10, cI cA a3 32 sn, cI cA a4 32 bd, cI cA a5 32 ch, cI cA rk 23 (zU ra1 i r_16), cO s 4 [.ref b0, .ref b1, .ref b2, .ref b3, .ref b4, .int (zI len), .int (zI lot)], cI cA b0 256 P, cI cA b1 256 Q, cI cA b2 256 M, cI cA b3 6 S] dX5_echoAt_54 rfl rfl ⟨by omega, by omega, by omega⟩ rfl ?_
            refine y_iinc C 3 [(3, .int (zI (i + 1))), (0, .ref x), (1, .int (zI row)), (2, .int (zI pl))] dX5_echoAt_55 rfl (by decide) rfl ?_
            refine y_goto C 33 dX5_echoAt_58 (by decide) ?_
            refine y_lsub C [1, 2, 3, 0] (lv' := [(0, .ref x), (1, .int (zI row)), (2, .int (zI pl)), (3, .int (zI (i + 1)))]) rfl ?_
            exact ih33 (i + 1) (zU ra1 i r_16) (by omega) (by intro k a b; unfold zU; split; omega; exact hr1 k a b) (by refine zU_ext (f := fun k => ecZ u row (2 + k)) hr2 ?_; show _ = ecZ u row (2 + i); rw [hv.1]; exact zcnt_congr (fun k a b => by constructor <;> rintro ⟨h1, h2⟩ <;> refine ⟨h1, ?_⟩; rw [← hd4 k a b, ← hd4 (k - (2 + i)) (by omega) (by omega)]; exact h2; rw [hd4 k a b, hd4 (k - (2 + i)) (by omega) (by omega)]; exact h2)) (by omega)
      · refine y_iconst C dX5_echoAt_17 ?_
        refine hret _ _ _ _ dX5_echoAt_18 ⟨per, win, cr, p, d, mm, sn, bd, ch, ra, rfl, ?_⟩
        show ((-1) = ansEchoAt u row pl) ∧ (∀ k : Int, 0 ≤ k → k < 32 → 0 ≤ bd k ∧ bd k ≤ 32) ∧ (∀ k : Int, 0 ≤ k → k < 23 → 0 ≤ ra k ∧ ra k ≤ 5000)
        refine ⟨?_, hbd, hra⟩
        unfold ansEchoAt
        rw [if_neg (by omega)]

set_option maxHeartbeats 4000000 in
set_option maxRecDepth 100000 in
theorem m_X5_faulty {l : Launch} {D : va_G} {cA cB : ClassId} {x ss hh pd g vw rk : Nat} {has : Int} {h a0 a1 a2 a3 a4 a5 : Nat} {per win cr : Int} {p d mm sn bd ch : Int → Int} {s b0 b1 b2 b3 b4 : Nat} {len lot : Int} {u P Q M S T ra : Int → Int} {pl : Int} (hzpl : zR pl) (hbd : ∀ k : Int, 0 ≤ k → k < 32 → 0 ≤ bd k ∧ bd k ≤ 32) (hra : ∀ k : Int, 0 ≤ k → k < 23 → 0 ≤ ra k ∧ ra k ≤ 5000) (hrel : Rel u S P Q M T len lot) : MI l yX5_faulty cX5_faulty 5 .int { frames := 5, cells := 0, slots := 0, locals := 111 } D (zT cA cB) [.ref x, .int (zI pl)] [cO x 5 [.ref s, .ref ss, .int (zI has), .ref hh, .ref pd, .ref h, .ref g, .ref vw, .ref rk], cO h 1 [.ref a0, .ref a1, .ref a2, .ref a3, .ref a4, .ref a5, .int (zI per), .int (zI win), .int (zI cr)], cI cA a0 32 p, cI cA a1 32 d, cI cA a2 32 mm, cI cA a3 32 sn, cI cA a4 32 bd, cI cA a5 32 ch, cI cA rk 23 ra, cO s 4 [.ref b0, .ref b1, .ref b2, .ref b3, .ref b4, .int (zI len), .int (zI lot)], cI cA b0 256 P, cI cA b1 256 Q, cI cA b2 256 M, cI cA b3 6 S] (fun r w => ∃ (perx : Int), ∃ (winx : Int), ∃ (crx : Int), ∃ (px : Int → Int), ∃ (dx : Int → Int), ∃ (mmx : Int → Int), ∃ (snx : Int → Int), ∃ (bdx : Int → Int), ∃ (chx : Int → Int), ∃ (rax : Int → Int), w = [cO x 5 [.ref s, .ref ss, .int (zI has), .ref hh, .ref pd, .ref h, .ref g, .ref vw, .ref rk], cO h 1 [.ref a0, .ref a1, .ref a2, .ref a3, .ref a4, .ref a5, .int (zI perx), .int (zI winx), .int (zI crx)], cI cA a0 32 px, cI cA a1 32 dx, cI cA a2 32 mmx, cI cA a3 32 snx, cI cA a4 32 bdx, cI cA a5 32 chx, cI cA rk 23 rax, cO s 4 [.ref b0, .ref b1, .ref b2, .ref b3, .ref b4, .int (zI len), .int (zI lot)], cI cA b0 256 P, cI cA b1 256 Q, cI cA b2 256 M, cI cA b3 6 S] ∧ (r = ansFaulty u pl) ∧ (∀ k : Int, 0 ≤ k → k < 32 → 0 ≤ bdx k ∧ bdx k ≤ 32) ∧ (∀ k : Int, 0 ≤ k → k < 23 → 0 ≤ rax k ∧ rax k ≤ 5000)) := by
  refine MI.of RX5 ⟨rfl, by decide +kernel⟩ (Or.inl rfl) (Nat.le_of_ble_eq_true rfl) (fun h => by cases h) ?_
  intro K C hret
  change K 0 0 _ [(0, .ref x), (1, .int (zI pl))] 0 []
  have hRS := hrel.S
  have hRP := hrel.P
  have hRQ := hrel.Q
  have hRM := hrel.M
  have hu := hRS.2
  have hzpl1 := hzpl.1
  have hzpl2 := hzpl.2
  refine y_iload_n C 1 dX5_faulty_0 rfl ?_
  refine y_pcalls C (m_X5_isRow (l := l) (D := D) (cA := cA) (cB := cB) (x := pl) (by first | assumption | omega | exact ⟨by omega, by omega⟩)) lk_X5_50 [] [0, 1, 2, 3, 4, 5, 6, 7, 8, 9, 10, 11, 12, 13] [0, 1, 2, 3, 4, 5, 6, 7, 8, 9, 10, 11, 12, 13] ⟨rfl, rfl, by decide, by decide, by decide⟩ ⟨rfl, by decide⟩ dX5_faulty_1 rfl rfl ⟨by exact Nat.le_of_ble_eq_true rfl, by exact Nat.le_of_ble_eq_true rfl, rfl, rfl, by exact Nat.le_of_ble_eq_true rfl, by exact Nat.le_of_ble_eq_true rfl, by exact Nat.le_of_ble_eq_true rfl⟩ (fun r_2 h_1 => ?_)
  refine y_if_ne C 9 dX5_faulty_4 (by decide) ⟨by omega, by omega⟩ (fun c_3 => ?_) (fun c_3 => ?_)
  · refine y_iconst C dX5_faulty_9 ?_
    refine y_istore_n C [(2, .int (zI 0)), (0, .ref x), (1, .int (zI pl))] dX5_faulty_10 (by decide) rfl ?_
    refine y_lsub C [1, 2, 0] (lv' := [(0, .ref x), (1, .int (zI pl)), (2, .int (zI 0))]) rfl ?_
    suffices hL11 : ∀ (fu : Nat) (row : Int) (p6 : Int → Int) (d6 : Int → Int) (mm6 : Int → Int) (sn6 : Int → Int) (bd6 : Int → Int) (ch6 : Int → Int) (ra1 : Int → Int) (per6 : Int) (win6 : Int) (cr6 : Int), (0 ≤ row ∧ row ≤ 8) → (∀ k : Int, 0 ≤ k → k < 23 → 0 ≤ ra1 k ∧ ra1 k ≤ 5000) → (∀ k : Int, 0 ≤ k → k < row → ra1 k = 33 * (kndR u k 6 + kndR u k 5) + kndR u k 6) → (∀ k : Int, 0 ≤ k → k < 32 → 0 ≤ bd6 k ∧ bd6 k ≤ 32) → (8 - row).toNat < fu → K 0 0 [cO x 5 [.ref s, .ref ss, .int (zI has), .ref hh, .ref pd, .ref h, .ref g, .ref vw, .ref rk], cO h 1 [.ref a0, .ref a1, .ref a2, .ref a3, .ref a4, .ref a5, .int (zI per6), .int (zI win6), .int (zI cr6)], cI cA a0 32 p6, cI cA a1 32 d6, cI cA a2 32 mm6, cI cA a3 32 sn6, cI cA a4 32 bd6, cI cA a5 32 ch6, cI cA rk 23 ra1, cO s 4 [.ref b0, .ref b1, .ref b2, .ref b3, .ref b4, .int (zI len), .int (zI lot)], cI cA b0 256 P, cI cA b1 256 Q, cI cA b2 256 M, cI cA b3 6 S] [(0, .ref x), (1, .int (zI pl)), (2, .int (zI row))] 11 [] from hL11 _ 0 p d mm sn bd ch ra per win cr (by omega) (by exact hra) (by intro k a b; omega) (by exact hbd) (Nat.lt_succ_self _)
    intro f11
    induction f11 with
    | zero => exact fun _ _ _ _ _ _ _ _ _ _ _ _ _ _ _ hf => absurd hf (Nat.not_lt_zero _)
    | succ f11 ih11 =>
      intro row p6 d6 mm6 sn6 bd6 ch6 ra1 per6 win6 cr6 hrow hr1 hr2 hb6 hf11
      refine y_iload_n C 2 dX5_faulty_11 rfl ?_
      refine y_bipush C dX5_faulty_12 (by decide +kernel) ?_
      refine y_icmp_ge C 70 dX5_faulty_14 (by decide) ⟨⟨by omega, by omega⟩, ⟨by omega, by omega⟩⟩ (fun c_4 => ?_) (fun c_4 => ?_)
      · refine y_aload_n C 0 dX5_faulty_70 rfl ?_
        refine y_bipush C dX5_faulty_71 (by decide +kernel) ?_
        refine y_iload_n C 1 dX5_faulty_73 rfl ?_
        refine y_pcall C (m_X5_rankedAt (l := l) (D := D) (cA := cA) (cB := cB) (x := x) (ss := ss) (hh := hh) (pd := pd) (g := g) (vw := vw) (rk := rk) (has := has) (s := s) (h := h) (ra := ra1) (m := 8) (pl := pl) (by first | assumption | omega | exact ⟨by omega, by omega⟩) (by first | assumption | omega | exact ⟨by omega, by omega⟩) (by first | assumption | omega | exact ⟨by omega, by omega⟩)) lk_X5_185 [0, 8] [1, 2, 3, 4, 5, 6, 7, 9, 10, 11, 12, 13] [12, 0, 1, 2, 3, 4, 5, 6, 13, 7, 8, 9, 10, 11] ⟨rfl, rfl, by decide, by decide, by decide⟩ ⟨rfl, by decide⟩ rfl rfl dX5_faulty_74 rfl rfl ⟨by exact Nat.le_of_ble_eq_true rfl, by exact Nat.le_of_ble_eq_true rfl, rfl, rfl, by exact Nat.le_of_ble_eq_true rfl, by exact Nat.le_of_ble_eq_true rfl, by exact Nat.le_of_ble_eq_true rfl⟩ (fun r_6 h_5 => ?_)
        have hq := h_5
        refine hret _ _ _ _ dX5_faulty_77 ⟨per6, win6, cr6, p6, d6, mm6, sn6, bd6, ch6, ra1, rfl, ?_⟩
        show (r_6 = ansFaulty u pl) ∧ (∀ k : Int, 0 ≤ k → k < 32 → 0 ≤ bd6 k ∧ bd6 k ≤ 32) ∧ (∀ k : Int, 0 ≤ k → k < 23 → 0 ≤ ra1 k ∧ ra1 k ≤ 5000)
        refine ⟨?_, hb6, hr1⟩
        unfold ansFaulty
        rw [if_pos (by omega), hq.1, pickZ_congr (g := fun k => 33 * (kndR u k 6 + kndR u k 5) + kndR u k 6) (fun k a b => hr2 k a (by omega))]
        exact pickZ_ord (fun i k a b c d => by have := kndR_r u i 5; have := kndR_r u i 6; have := kndR_r u k 5; have := kndR_r u k 6; unfold faultZ; rcases (show kndR u i 6 + kndR u i 5 < kndR u k 6 + kndR u k 5 ∨ kndR u i 6 + kndR u i 5 = kndR u k 6 + kndR u k 5 ∨ kndR u k 6 + kndR u k 5 < kndR u i 6 + kndR u i 5 from by omega) with e | e | e <;> constructor <;> intro _ <;> omega)
      · refine y_aload_n C 0 dX5_faulty_17 rfl ?_
        refine y_get C fg_X5_36 0 dX5_faulty_18 rfl rfl ?_
        refine y_aload_n C 0 dX5_faulty_21 rfl ?_
        refine y_get C fg_X5_12 0 dX5_faulty_22 rfl rfl ?_
        refine y_iload_n C 2 dX5_faulty_25 rfl ?_
        refine y_mcallv C (m_X1_study (l := l) (D := D) (cA := cA) (cB := cB) (h := h) (a0 := a0) (a1 := a1) (a2 := a2) (a3 := a3) (a4 := a4) (a5 := a5) (per := per6) (win := win6) (cr := cr6) (s := s) (b0 := b0) (b1 := b1) (b2 := b2) (b3 := b3) (b4 := b4) (len := len) (lot := lot) (p := p6) (d := d6) (mm := mm6) (sn := sn6) (bd := bd6) (ch := ch6) (P := P) (Q := Q) (M := M) (S := S) (row := row) (by first | assumption | omega | exact ⟨by omega, by omega⟩) (by first | assumption | omega | exact ⟨by omega, by omega⟩) (by first | assumption | omega | exact ⟨by omega, by omega⟩) (by first | assumption | omega | exact ⟨by omega, by omega⟩) (by first | assumption | omega | exact ⟨by omega, by omega⟩)) lk_X5_146 [1, 2, 3, 4, 5, 6, 7, 9, 10, 11, 12, 13] [0, 8] ⟨rfl, rfl, by decide, by decide, by decide⟩ (jb := 0) rfl rfl dX5_faulty_26 rfl rfl ⟨by exact Nat.le_of_ble_eq_true rfl, by exact Nat.le_of_ble_eq_true rfl, rfl, rfl, by exact Nat.le_of_ble_eq_true rfl, by exact Nat.le_of_ble_eq_true rfl, by exact Nat.le_of_ble_eq_true rfl⟩ (fun w_15 h_7 => ?_)
        obtain ⟨p4_9, d4_10, mm4_11, sn4_12, bd4_13, ch4_14, rfl, h_7⟩ := h_7
        refine ⟨[0, 2, 3, 4, 5, 6, 7, 8, 1, 9, 10, 11, 12, 13], [cO x 5 [.ref s, .ref ss, .int (zI has), .ref hh, .ref pd, .ref h, .ref g, .ref vw, .ref rk], cO h 1 [.ref a0, .ref a1, .ref a2, .ref a3, .ref a4, .ref a5, .int (zI (u 0)), .int (zI (u 2)), .int (zI (u 3))], cI cA a0 32 p4_9, cI cA a1 32 d4_10, cI cA a2 32 mm4_11, cI cA a3 32 sn4_12, cI cA a4 32 bd4_13, cI cA a5 32 ch4_14, cI cA rk 23 ra1, cO s 4 [.ref b0, .ref b1, .ref b2, .ref b3, .ref b4, .int (zI len), .int (zI lot)], cI cA b0 256 P, cI cA b1 256 Q, cI cA b2 256 M, cI cA b3 6 S], ⟨rfl, by decide⟩, ?_⟩
        obtain ⟨hp4, hd4, hm4, hs4, hb4, hc4⟩ := h_7
        have hp5 : ∀ k : Int, 0 ≤ k → k < 32 → 0 ≤ p4_9 k ∧ p4_9 k ≤ 4 := fun k h0 h1 => by rw [hp4 k h0 h1]; exact (zp_of hRP (by omega) h0 h1).2
        have hd5 : ∀ k : Int, 0 ≤ k → k < 32 → 0 ≤ d4_10 k ∧ d4_10 k ≤ 7 := fun k h0 h1 => by rw [hd4 k h0 h1]; exact (zd_of hRQ (by omega) h0 h1).2
        have hm5 : ∀ k : Int, 0 ≤ k → k < 32 → -4 ≤ mm4_11 k ∧ mm4_11 k ≤ 7 := fun k h0 h1 => by rw [hm4 k h0 h1]; exact (zk_of hRM (by omega) h0 h1).2
        have hs5 : ∀ k : Int, 0 ≤ k → k < 32 → -4 ≤ sn4_12 k ∧ sn4_12 k ≤ 4 := fun k h0 h1 => by rw [hs4 k h0 h1]; have := seeR_r u row k; omega
        have hb5 : ∀ k : Int, 0 ≤ k → k < 32 → 0 ≤ bd4_13 k ∧ bd4_13 k ≤ 32 := fun k h0 h1 => by rw [hb4 k h0 h1]; exact bndZ_r _ _ _
        have hpu : ∀ k : Int, 0 ≤ k → k < 32 → p4_9 k < u 0 := fun k h0 h1 => by have := hp5 k h0 h1; omega
        have hc5 : ∀ k : Int, 0 ≤ k → k < 32 → 0 ≤ ch4_14 k ∧ ch4_14 k ≤ 31 := fun k h0 h1 => by rw [hc4 k h0 h1]; have := chZ_r (per := u 0) (p := zp u row) (fun j a b => by rw [← hp4 j a b]; exact hpu j a b) ⟨h0, h1⟩; unfold chnR; omega
        refine y_aload_n C 0 dX5_faulty_29 rfl ?_
        refine y_get C fg_X5_36 0 dX5_faulty_30 rfl rfl ?_
        refine y_bipush C dX5_faulty_33 (by decide +kernel) ?_
        refine y_pcall C (m_X1_placesOfKind (l := l) (D := D) (cA := cA) (cB := cB) (h := h) (a0 := a0) (a1 := a1) (a2 := a2) (a3 := a3) (a4 := a4) (a5 := a5) (per := u 0) (win := u 2) (cr := u 3) (p := p4_9) (d := d4_10) (mm := mm4_11) (sn := sn4_12) (bd := bd4_13) (kind := 6) (by first | assumption | omega | exact ⟨by omega, by omega⟩) (by first | assumption | omega | exact ⟨by omega, by omega⟩) (by first | assumption | omega | exact ⟨by omega, by omega⟩) (by first | assumption | omega | exact ⟨by omega, by omega⟩) (by first | assumption | omega | exact ⟨by omega, by omega⟩) (by first | assumption | omega | exact ⟨by omega, by omega⟩) (by first | assumption | omega | exact ⟨by omega, by omega⟩)) lk_X5_179 [1, 2, 3, 4, 5, 6] [0, 7, 8, 9, 10, 11, 12, 13] [0, 8, 9, 10, 11, 12, 13, 1, 2, 3, 4, 5, 6, 7] ⟨rfl, rfl, by decide, by decide, by decide⟩ ⟨rfl, by decide⟩ rfl rfl dX5_faulty_35 rfl rfl ⟨by exact Nat.le_of_ble_eq_true rfl, by exact Nat.le_of_ble_eq_true rfl, rfl, rfl, by exact Nat.le_of_ble_eq_true rfl, by exact Nat.le_of_ble_eq_true rfl, by exact Nat.le_of_ble_eq_true rfl⟩ (fun r_17 h_16 => ?_)
        have hk6 : r_17 = kndR u row 6 := (h_16).1.trans (kndR_of hp4 hd4 hm4 hs4 hb4 hpu)
        have hk6r := (h_16).2
        refine y_istore_n C [(3, .int (zI r_17)), (0, .ref x), (1, .int (zI pl)), (2, .int (zI row))] dX5_faulty_38 (by decide) rfl ?_
        refine y_iload_n C 0 dX5_faulty_39 rfl ?_
        refine y_aload_n C 1 dX5_faulty_40 rfl ?_
        refine y_get C fg_X5_36 0 dX5_faulty_41 rfl rfl ?_
        refine y_iconst C dX5_faulty_44 ?_
        refine y_pcall C (m_X1_placesOfKind (l := l) (D := D) (cA := cA) (cB := cB) (h := h) (a0 := a0) (a1 := a1) (a2 := a2) (a3 := a3) (a4 := a4) (a5 := a5) (per := u 0) (win := u 2) (cr := u 3) (p := p4_9) (d := d4_10) (mm := mm4_11) (sn := sn4_12) (bd := bd4_13) (kind := 5) (by first | assumption | omega | exact ⟨by omega, by omega⟩) (by first | assumption | omega | exact ⟨by omega, by omega⟩) (by first | assumption | omega | exact ⟨by omega, by omega⟩) (by first | assumption | omega | exact ⟨by omega, by omega⟩) (by first | assumption | omega | exact ⟨by omega, by omega⟩) (by first | assumption | omega | exact ⟨by omega, by omega⟩) (by first | assumption | omega | exact ⟨by omega, by omega⟩)) lk_X5_179 [1, 2, 3, 4, 5, 6] [0, 7, 8, 9, 10, 11, 12, 13] [0, 8, 9, 10, 11, 12, 13, 1, 2, 3, 4, 5, 6, 7] ⟨rfl, rfl, by decide, by decide, by decide⟩ ⟨rfl, by decide⟩ rfl rfl dX5_faulty_45 rfl rfl ⟨by exact Nat.le_of_ble_eq_true rfl, by exact Nat.le_of_ble_eq_true rfl, rfl, rfl, by exact Nat.le_of_ble_eq_true rfl, by exact Nat.le_of_ble_eq_true rfl, by exact Nat.le_of_ble_eq_true rfl⟩ (fun r_19 h_18 => ?_)
        have hk5 : r_19 = kndR u row 5 := (h_18).1.trans (kndR_of hp4 hd4 hm4 hs4 hb4 hpu)
        have hk5r := (h_18).2
        refine y_iadd C dX5_faulty_48 ?_
        refine y_istore C [(4, .int (zI (r_17 + r_19))), (3, .int (zI r_17)), (0, .ref x), (1, .int (zI pl)), (2, .int (zI row))] dX5_faulty_49 (by decide) rfl ?_
        refine y_aload_n C 2 dX5_faulty_51 rfl ?_
        refine y_get C fg_X5_47 0 dX5_faulty_52 rfl rfl ?_
        refine y_iload_n C 4 dX5_faulty_55 rfl ?_
        refine y_iload C 0 dX5_faulty_56 rfl ?_
        refine y_bipush C dX5_faulty_58 (by decide +kernel) ?_
        refine y_imul C dX5_faulty_60 ?_
        refine y_iload_n C 1 dX5_faulty_61 rfl ?_
        refine y_iadd C dX5_faulty_62 ?_
        refine y_iast C 8 0 [cO x 5 [.ref s, .ref ss, .int (zI has), .ref hh, .ref pd, .ref h, .ref g, .ref vw, .ref rk], cO h 1 [.ref a0, .ref a1, .ref a2, .ref a3, .ref a4, .ref a5, .int (zI (u 0)), .int (zI (u 2)), .int (zI (u 3))], cI cA a0 32 p4_9, cI cA a1 32 d4_10, cI cA a2 32 mm4_11, cI cA a3 32 sn4_12, cI cA a4 32 bd4_13, cI cA a5 32 ch4_14, cI cA rk 23 (zU ra1 row (((r_17 + r_19) * 33) + r_17)), cO s 4 [.ref b0, .ref b1, .ref b2, .ref b3, .ref b4, .int (zI len), .int (zI lot)], cI cA b0 256 P, cI cA b1 256 Q, cI cA b2 256 M, cI cA b3 6 S] dX5_faulty_63 rfl rfl ⟨by omega, by omega, by omega⟩ rfl ?_
        refine y_iinc C 4 [(2, .int (zI (row + 1))), (4, .int (zI (r_17 + r_19))), (3, .int (zI r_17)), (0, .ref x), (1, .int (zI pl))] dX5_faulty_64 rfl (by decide) rfl ?_
        refine y_goto C 11 dX5_faulty_67 (by decide) ?_
        refine y_lsub C [3, 4, 0] (lv' := [(0, .ref x), (1, .int (zI pl)), (2, .int (zI (row + 1)))]) rfl ?_
        exact ih11 (row + 1) p4_9 d4_10 mm4_11 sn4_12 bd4_13 ch4_14 (zU ra1 row (((r_17 + r_19) * 33) + r_17)) (u 0) (u 2) (u 3) (by omega) (by intro k a b; unfold zU; split; omega; exact hr1 k a b) (by refine zU_ext (f := fun k => 33 * (kndR u k 6 + kndR u k 5) + kndR u k 6) hr2 ?_; show _ = 33 * (kndR u row 6 + kndR u row 5) + kndR u row 6; omega) (by exact hb5) (by omega)
  · refine y_iconst C dX5_faulty_7 ?_
    refine hret _ _ _ _ dX5_faulty_8 ⟨per, win, cr, p, d, mm, sn, bd, ch, ra, rfl, ?_⟩
    show ((-1) = ansFaulty u pl) ∧ (∀ k : Int, 0 ≤ k → k < 32 → 0 ≤ bd k ∧ bd k ≤ 32) ∧ (∀ k : Int, 0 ≤ k → k < 23 → 0 ≤ ra k ∧ ra k ≤ 5000)
    refine ⟨?_, hbd, hra⟩
    unfold ansFaulty
    rw [if_neg (by omega)]

set_option maxHeartbeats 4000000 in
set_option maxRecDepth 100000 in
theorem m_X5_plane {l : Launch} {D : va_G} {cA cB : ClassId} {x ss hh pd g vw rk : Nat} {has : Int} {h a0 a1 a2 a3 a4 a5 : Nat} {per win cr : Int} {p d mm sn bd ch : Int → Int} {s b0 b1 b2 b3 b4 : Nat} {len lot : Int} {u P Q M S T : Int → Int} {q wh : Int} (hzq : zR q) (hzwh : zR wh) (hbd : ∀ k : Int, 0 ≤ k → k < 32 → 0 ≤ bd k ∧ bd k ≤ 32) (hrel : Rel u S P Q M T len lot) : MI l yX5_plane cX5_plane 5 .int { frames := 5, cells := 0, slots := 0, locals := 111 } D (zT cA cB) [.ref x, .int (zI q), .int (zI wh)] [cO x 5 [.ref s, .ref ss, .int (zI has), .ref hh, .ref pd, .ref h, .ref g, .ref vw, .ref rk], cO h 1 [.ref a0, .ref a1, .ref a2, .ref a3, .ref a4, .ref a5, .int (zI per), .int (zI win), .int (zI cr)], cI cA a0 32 p, cI cA a1 32 d, cI cA a2 32 mm, cI cA a3 32 sn, cI cA a4 32 bd, cI cA a5 32 ch, cO s 4 [.ref b0, .ref b1, .ref b2, .ref b3, .ref b4, .int (zI len), .int (zI lot)], cI cA b0 256 P, cI cA b1 256 Q, cI cA b2 256 M, cI cA b3 6 S] (fun r w => ∃ (perx : Int), ∃ (winx : Int), ∃ (crx : Int), ∃ (px : Int → Int), ∃ (dx : Int → Int), ∃ (mmx : Int → Int), ∃ (snx : Int → Int), ∃ (bdx : Int → Int), ∃ (chx : Int → Int), w = [cO x 5 [.ref s, .ref ss, .int (zI has), .ref hh, .ref pd, .ref h, .ref g, .ref vw, .ref rk], cO h 1 [.ref a0, .ref a1, .ref a2, .ref a3, .ref a4, .ref a5, .int (zI perx), .int (zI winx), .int (zI crx)], cI cA a0 32 px, cI cA a1 32 dx, cI cA a2 32 mmx, cI cA a3 32 snx, cI cA a4 32 bdx, cI cA a5 32 chx, cO s 4 [.ref b0, .ref b1, .ref b2, .ref b3, .ref b4, .int (zI len), .int (zI lot)], cI cA b0 256 P, cI cA b1 256 Q, cI cA b2 256 M, cI cA b3 6 S] ∧ (r = ansPlane u q wh) ∧ (∀ k : Int, 0 ≤ k → k < 32 → 0 ≤ bdx k ∧ bdx k ≤ 32)) := by
  refine MI.of RX5 ⟨rfl, by decide +kernel⟩ (Or.inl rfl) (Nat.le_of_ble_eq_true rfl) (fun h => by cases h) ?_
  intro K C hret
  change K 0 0 _ [(0, .ref x), (1, .int (zI q)), (2, .int (zI wh))] 0 []
  have hRS := hrel.S
  have hRP := hrel.P
  have hRQ := hrel.Q
  have hRM := hrel.M
  have hu := hRS.2
  have hzq1 := hzq.1
  have hzq2 := hzq.2
  have hzwh1 := hzwh.1
  have hzwh2 := hzwh.2
  refine y_iload_n C 1 dX5_plane_0 rfl ?_
  refine y_pcalls C (m_X5_isPlane (l := l) (D := D) (cA := cA) (cB := cB) (x := q) (by first | assumption | omega | exact ⟨by omega, by omega⟩)) lk_X5_57 [] [0, 1, 2, 3, 4, 5, 6, 7, 8, 9, 10, 11, 12] [0, 1, 2, 3, 4, 5, 6, 7, 8, 9, 10, 11, 12] ⟨rfl, rfl, by decide, by decide, by decide⟩ ⟨rfl, by decide⟩ dX5_plane_1 rfl rfl ⟨by exact Nat.le_of_ble_eq_true rfl, by exact Nat.le_of_ble_eq_true rfl, rfl, rfl, by exact Nat.le_of_ble_eq_true rfl, by exact Nat.le_of_ble_eq_true rfl, by exact Nat.le_of_ble_eq_true rfl⟩ (fun r_2 h_1 => ?_)
  refine y_if_eq C 16 dX5_plane_4 (by decide) ⟨by omega, by omega⟩ (fun c_3 => ?_) (fun c_3 => ?_)
  · refine y_iconst C dX5_plane_16 ?_
    refine hret _ _ _ _ dX5_plane_17 ⟨per, win, cr, p, d, mm, sn, bd, ch, rfl, ?_⟩
    show ((-1) = ansPlane u q wh) ∧ (∀ k : Int, 0 ≤ k → k < 32 → 0 ≤ bd k ∧ bd k ≤ 32)
    refine ⟨?_, hbd⟩
    unfold ansPlane
    rw [if_neg (by omega)]
  · refine y_iload_n C 2 dX5_plane_7 rfl ?_
    refine y_if_lt C 16 dX5_plane_8 (by decide) ⟨by omega, by omega⟩ (fun c_4 => ?_) (fun c_4 => ?_)
    · refine y_iconst C dX5_plane_16 ?_
      refine hret _ _ _ _ dX5_plane_17 ⟨per, win, cr, p, d, mm, sn, bd, ch, rfl, ?_⟩
      show ((-1) = ansPlane u q wh) ∧ (∀ k : Int, 0 ≤ k → k < 32 → 0 ≤ bd k ∧ bd k ≤ 32)
      refine ⟨?_, hbd⟩
      unfold ansPlane
      rw [if_neg (by omega)]
    · refine y_iload_n C 2 dX5_plane_11 rfl ?_
      refine y_iconst C dX5_plane_12 ?_
      refine y_icmp_le C 18 dX5_plane_13 (by decide) ⟨⟨by omega, by omega⟩, ⟨by omega, by omega⟩⟩ (fun c_5 => ?_) (fun c_5 => ?_)
      · refine y_iconst C dX5_plane_18 ?_
        refine y_istore_n C [(3, .int (zI 0)), (0, .ref x), (1, .int (zI q)), (2, .int (zI wh))] dX5_plane_19 (by decide) rfl ?_
        refine y_iconst C dX5_plane_20 ?_
        refine y_istore C [(4, .int (zI 0)), (3, .int (zI 0)), (0, .ref x), (1, .int (zI q)), (2, .int (zI wh))] dX5_plane_21 (by decide) rfl ?_
        refine y_lsub C [2, 3, 4, 1, 0] (lv' := [(0, .ref x), (1, .int (zI q)), (2, .int (zI wh)), (3, .int (zI 0)), (4, .int (zI 0))]) rfl ?_
        suffices hL23 : ∀ (fu : Nat) (n : Int) (row : Int) (p6 : Int → Int) (d6 : Int → Int) (mm6 : Int → Int) (sn6 : Int → Int) (bd6 : Int → Int) (ch6 : Int → Int) (per6 : Int) (win6 : Int) (cr6 : Int), (0 ≤ row ∧ row ≤ 8) → (n = sumZ (fun row => numW (zp u row) (seeR u row) q wh) row ∧ 0 ≤ n ∧ n ≤ 32 * row) → (∀ k : Int, 0 ≤ k → k < 32 → 0 ≤ bd6 k ∧ bd6 k ≤ 32) → (8 - row).toNat < fu → K 0 0 [cO x 5 [.ref s, .ref ss, .int (zI has), .ref hh, .ref pd, .ref h, .ref g, .ref vw, .ref rk], cO h 1 [.ref a0, .ref a1, .ref a2, .ref a3, .ref a4, .ref a5, .int (zI per6), .int (zI win6), .int (zI cr6)], cI cA a0 32 p6, cI cA a1 32 d6, cI cA a2 32 mm6, cI cA a3 32 sn6, cI cA a4 32 bd6, cI cA a5 32 ch6, cO s 4 [.ref b0, .ref b1, .ref b2, .ref b3, .ref b4, .int (zI len), .int (zI lot)], cI cA b0 256 P, cI cA b1 256 Q, cI cA b2 256 M, cI cA b3 6 S] [(0, .ref x), (1, .int (zI q)), (2, .int (zI wh)), (3, .int (zI n)), (4, .int (zI row))] 23 [] from hL23 _ 0 0 p d mm sn bd ch per win cr (by omega) (by exact ⟨rfl, by omega, by omega⟩) (by exact hbd) (Nat.lt_succ_self _)
        intro f23
        induction f23 with
        | zero => exact fun _ _ _ _ _ _ _ _ _ _ _ _ _ _ hf => absurd hf (Nat.not_lt_zero _)
        | succ f23 ih23 =>
          intro n row p6 d6 mm6 sn6 bd6 ch6 per6 win6 cr6 hrow hn hb6 hf23
          refine y_iload C 4 dX5_plane_23 rfl ?_
          refine y_bipush C dX5_plane_25 (by decide +kernel) ?_
          refine y_icmp_ge C 61 dX5_plane_27 (by decide) ⟨⟨by omega, by omega⟩, ⟨by omega, by omega⟩⟩ (fun c_6 => ?_) (fun c_6 => ?_)
          · refine y_iload_n C 3 dX5_plane_61 rfl ?_
            refine hret _ _ _ _ dX5_plane_62 ⟨per6, win6, cr6, p6, d6, mm6, sn6, bd6, ch6, rfl, ?_⟩
            show (n = ansPlane u q wh) ∧ (∀ k : Int, 0 ≤ k → k < 32 → 0 ≤ bd6 k ∧ bd6 k ≤ 32)
            obtain rfl : row = 8 := by omega
            refine ⟨?_, hb6⟩
            unfold ansPlane
            rw [if_pos (by omega)]
            exact hn.1
          · refine y_aload_n C 0 dX5_plane_30 rfl ?_
            refine y_get C fg_X5_36 0 dX5_plane_31 rfl rfl ?_
            refine y_aload_n C 0 dX5_plane_34 rfl ?_
            refine y_get C fg_X5_12 0 dX5_plane_35 rfl rfl ?_
            refine y_iload C 4 dX5_plane_38 rfl ?_
            refine y_mcallv C (m_X1_study (l := l) (D := D) (cA := cA) (cB := cB) (h := h) (a0 := a0) (a1 := a1) (a2 := a2) (a3 := a3) (a4 := a4) (a5 := a5) (per := per6) (win := win6) (cr := cr6) (s := s) (b0 := b0) (b1 := b1) (b2 := b2) (b3 := b3) (b4 := b4) (len := len) (lot := lot) (p := p6) (d := d6) (mm := mm6) (sn := sn6) (bd := bd6) (ch := ch6) (P := P) (Q := Q) (M := M) (S := S) (row := row) (by first | assumption | omega | exact ⟨by omega, by omega⟩) (by first | assumption | omega | exact ⟨by omega, by omega⟩) (by first | assumption | omega | exact ⟨by omega, by omega⟩) (by first | assumption | omega | exact ⟨by omega, by omega⟩) (by first | assumption | omega | exact ⟨by omega, by omega⟩)) lk_X5_146 [1, 2, 3, 4, 5, 6, 7, 8, 9, 10, 11, 12] [0] ⟨rfl, rfl, by decide, by decide, by decide⟩ (jb := 0) rfl rfl dX5_plane_40 rfl rfl ⟨by exact Nat.le_of_ble_eq_true rfl, by exact Nat.le_of_ble_eq_true rfl, rfl, rfl, by exact Nat.le_of_ble_eq_true rfl, by exact Nat.le_of_ble_eq_true rfl, by exact Nat.le_of_ble_eq_true rfl⟩ (fun w_15 h_7 => ?_)
            obtain ⟨p4_9, d4_10, mm4_11, sn4_12, bd4_13, ch4_14, rfl, h_7⟩ := h_7
            refine ⟨[0, 1, 2, 3, 4, 5, 6, 7, 8, 9, 10, 11, 12], [cO x 5 [.ref s, .ref ss, .int (zI has), .ref hh, .ref pd, .ref h, .ref g, .ref vw, .ref rk], cO h 1 [.ref a0, .ref a1, .ref a2, .ref a3, .ref a4, .ref a5, .int (zI (u 0)), .int (zI (u 2)), .int (zI (u 3))], cI cA a0 32 p4_9, cI cA a1 32 d4_10, cI cA a2 32 mm4_11, cI cA a3 32 sn4_12, cI cA a4 32 bd4_13, cI cA a5 32 ch4_14, cO s 4 [.ref b0, .ref b1, .ref b2, .ref b3, .ref b4, .int (zI len), .int (zI lot)], cI cA b0 256 P, cI cA b1 256 Q, cI cA b2 256 M, cI cA b3 6 S], ⟨rfl, by decide⟩, ?_⟩
            obtain ⟨hp4, hd4, hm4, hs4, hb4, hc4⟩ := h_7
            have hp5 : ∀ k : Int, 0 ≤ k → k < 32 → 0 ≤ p4_9 k ∧ p4_9 k ≤ 4 := fun k h0 h1 => by rw [hp4 k h0 h1]; exact (zp_of hRP (by omega) h0 h1).2
            have hd5 : ∀ k : Int, 0 ≤ k → k < 32 → 0 ≤ d4_10 k ∧ d4_10 k ≤ 7 := fun k h0 h1 => by rw [hd4 k h0 h1]; exact (zd_of hRQ (by omega) h0 h1).2
            have hm5 : ∀ k : Int, 0 ≤ k → k < 32 → -4 ≤ mm4_11 k ∧ mm4_11 k ≤ 7 := fun k h0 h1 => by rw [hm4 k h0 h1]; exact (zk_of hRM (by omega) h0 h1).2
            have hs5 : ∀ k : Int, 0 ≤ k → k < 32 → -4 ≤ sn4_12 k ∧ sn4_12 k ≤ 4 := fun k h0 h1 => by rw [hs4 k h0 h1]; have := seeR_r u row k; omega
            have hb5 : ∀ k : Int, 0 ≤ k → k < 32 → 0 ≤ bd4_13 k ∧ bd4_13 k ≤ 32 := fun k h0 h1 => by rw [hb4 k h0 h1]; exact bndZ_r _ _ _
            have hpu : ∀ k : Int, 0 ≤ k → k < 32 → p4_9 k < u 0 := fun k h0 h1 => by have := hp5 k h0 h1; omega
            have hc5 : ∀ k : Int, 0 ≤ k → k < 32 → 0 ≤ ch4_14 k ∧ ch4_14 k ≤ 31 := fun k h0 h1 => by rw [hc4 k h0 h1]; have := chZ_r (per := u 0) (p := zp u row) (fun j a b => by rw [← hp4 j a b]; exact hpu j a b) ⟨h0, h1⟩; unfold chnR; omega
            refine y_iload_n C 3 dX5_plane_43 rfl ?_
            refine y_aload_n C 0 dX5_plane_44 rfl ?_
            refine y_get C fg_X5_36 0 dX5_plane_45 rfl rfl ?_
            refine y_iload_n C 1 dX5_plane_48 rfl ?_
            refine y_iload_n C 2 dX5_plane_49 rfl ?_
            refine y_pcall C (m_X1_numberOfPlane (l := l) (D := D) (cA := cA) (cB := cB) (h := h) (a0 := a0) (a1 := a1) (a2 := a2) (a3 := a3) (a4 := a4) (a5 := a5) (per := u 0) (win := u 2) (cr := u 3) (p := p4_9) (sn := sn4_12) (q := q) (wh := wh) (by first | assumption | omega | exact ⟨by omega, by omega⟩) (by first | assumption | omega | exact ⟨by omega, by omega⟩) (by first | assumption | omega | exact ⟨by omega, by omega⟩) (by first | assumption | omega | exact ⟨by omega, by omega⟩)) lk_X5_188 [1, 2, 5] [0, 3, 4, 6, 7, 8, 9, 10, 11, 12] [0, 10, 11, 1, 2, 12, 3, 4, 5, 6, 7, 8, 9] ⟨rfl, rfl, by decide, by decide, by decide⟩ ⟨rfl, by decide⟩ rfl rfl dX5_plane_50 rfl rfl ⟨by exact Nat.le_of_ble_eq_true rfl, by exact Nat.le_of_ble_eq_true rfl, rfl, rfl, by exact Nat.le_of_ble_eq_true rfl, by exact Nat.le_of_ble_eq_true rfl, by exact Nat.le_of_ble_eq_true rfl⟩ (fun r_17 h_16 => ?_)
            have hv := h_16
            refine y_iadd C dX5_plane_53 ?_
            refine y_istore_n C [(3, .int (zI (n + r_17))), (0, .ref x), (1, .int (zI q)), (2, .int (zI wh)), (4, .int (zI row))] dX5_plane_54 (by decide) rfl ?_
            refine y_iinc C 4 [(4, .int (zI (row + 1))), (3, .int (zI (n + r_17))), (0, .ref x), (1, .int (zI q)), (2, .int (zI wh))] dX5_plane_55 rfl (by decide) rfl ?_
            refine y_goto C 23 dX5_plane_58 (by decide) ?_
            refine y_lsub C [2, 3, 4, 1, 0] (lv' := [(0, .ref x), (1, .int (zI q)), (2, .int (zI wh)), (3, .int (zI (n + r_17))), (4, .int (zI (row + 1)))]) rfl ?_
            exact ih23 (n + r_17) (row + 1) p4_9 d4_10 mm4_11 sn4_12 bd4_13 ch4_14 (u 0) (u 2) (u 3) (by omega) (by refine ⟨?_, by omega, by omega⟩; rw [sumZ_s _ (by omega), ← hn.1, hv.1]; congr 1; exact numW_congr hp4 hs4) (by exact hb5) (by omega)
      · refine y_iconst C dX5_plane_16 ?_
        refine hret _ _ _ _ dX5_plane_17 ⟨per, win, cr, p, d, mm, sn, bd, ch, rfl, ?_⟩
        show ((-1) = ansPlane u q wh) ∧ (∀ k : Int, 0 ≤ k → k < 32 → 0 ≤ bd k ∧ bd k ≤ 32)
        refine ⟨?_, hbd⟩
        unfold ansPlane
        rw [if_neg (by omega)]

set_option maxHeartbeats 4000000 in
set_option maxRecDepth 100000 in
theorem m_X5_pictures {l : Launch} {D : va_G} {cA cB : ClassId} {x ss hh pd g vw rk : Nat} {has : Int} {h a0 a1 a2 a3 a4 a5 : Nat} {per win cr : Int} {p d mm sn bd ch : Int → Int} {s b0 b1 b2 b3 b4 : Nat} {len lot : Int} {u P Q M S T vi : Int → Int} (hbd : ∀ k : Int, 0 ≤ k → k < 32 → 0 ≤ bd k ∧ bd k ≤ 32) (hrel : Rel u S P Q M T len lot) : MI l yX5_pictures cX5_pictures 3 .int { frames := 5, cells := 0, slots := 0, locals := 111 } D (zT cA cB) [.ref x] [cO x 5 [.ref s, .ref ss, .int (zI has), .ref hh, .ref pd, .ref h, .ref g, .ref vw, .ref rk], cO h 1 [.ref a0, .ref a1, .ref a2, .ref a3, .ref a4, .ref a5, .int (zI per), .int (zI win), .int (zI cr)], cI cA a0 32 p, cI cA a1 32 d, cI cA a2 32 mm, cI cA a3 32 sn, cI cA a4 32 bd, cI cA a5 32 ch, cI cA vw 256 vi, cO s 4 [.ref b0, .ref b1, .ref b2, .ref b3, .ref b4, .int (zI len), .int (zI lot)], cI cA b0 256 P, cI cA b1 256 Q, cI cA b2 256 M, cI cA b3 6 S] (fun r w => ∃ (perx : Int), ∃ (winx : Int), ∃ (crx : Int), ∃ (px : Int → Int), ∃ (dx : Int → Int), ∃ (mmx : Int → Int), ∃ (snx : Int → Int), ∃ (bdx : Int → Int), ∃ (chx : Int → Int), ∃ (vix : Int → Int), w = [cO x 5 [.ref s, .ref ss, .int (zI has), .ref hh, .ref pd, .ref h, .ref g, .ref vw, .ref rk], cO h 1 [.ref a0, .ref a1, .ref a2, .ref a3, .ref a4, .ref a5, .int (zI perx), .int (zI winx), .int (zI crx)], cI cA a0 32 px, cI cA a1 32 dx, cI cA a2 32 mmx, cI cA a3 32 snx, cI cA a4 32 bdx, cI cA a5 32 chx, cI cA vw 256 vix, cO s 4 [.ref b0, .ref b1, .ref b2, .ref b3, .ref b4, .int (zI len), .int (zI lot)], cI cA b0 256 P, cI cA b1 256 Q, cI cA b2 256 M, cI cA b3 6 S] ∧ (r = picsZ u) ∧ (∀ k : Int, 0 ≤ k → k < 32 → 0 ≤ bdx k ∧ bdx k ≤ 32)) := by
  refine MI.of RX5 ⟨rfl, by decide +kernel⟩ (Or.inl rfl) (Nat.le_of_ble_eq_true rfl) (fun h => by cases h) ?_
  intro K C hret
  change K 0 0 _ [(0, .ref x)] 0 []
  have hRS := hrel.S
  have hRP := hrel.P
  have hRQ := hrel.Q
  have hRM := hrel.M
  have hu := hRS.2
  refine y_iconst C dX5_pictures_0 ?_
  refine y_istore_n C [(1, .int (zI 0)), (0, .ref x)] dX5_pictures_1 (by decide) rfl ?_
  refine y_lsub C [1, 0] (lv' := [(0, .ref x), (1, .int (zI 0))]) rfl ?_
  suffices hL2 : ∀ (fu : Nat) (row : Int) (p6 : Int → Int) (d6 : Int → Int) (mm6 : Int → Int) (sn6 : Int → Int) (bd6 : Int → Int) (ch6 : Int → Int) (vi1 : Int → Int) (per6 : Int) (win6 : Int) (cr6 : Int), (0 ≤ row ∧ row ≤ 8) → (∀ r k : Int, 0 ≤ r → r < row → 0 ≤ k → k < 32 → vi1 (r * 32 + k) = seeR u r k) → (∀ k : Int, 0 ≤ k → k < 32 → 0 ≤ bd6 k ∧ bd6 k ≤ 32) → (8 - row).toNat < fu → K 0 0 [cO x 5 [.ref s, .ref ss, .int (zI has), .ref hh, .ref pd, .ref h, .ref g, .ref vw, .ref rk], cO h 1 [.ref a0, .ref a1, .ref a2, .ref a3, .ref a4, .ref a5, .int (zI per6), .int (zI win6), .int (zI cr6)], cI cA a0 32 p6, cI cA a1 32 d6, cI cA a2 32 mm6, cI cA a3 32 sn6, cI cA a4 32 bd6, cI cA a5 32 ch6, cI cA vw 256 vi1, cO s 4 [.ref b0, .ref b1, .ref b2, .ref b3, .ref b4, .int (zI len), .int (zI lot)], cI cA b0 256 P, cI cA b1 256 Q, cI cA b2 256 M, cI cA b3 6 S] [(0, .ref x), (1, .int (zI row))] 2 [] from hL2 _ 0 p d mm sn bd ch vi per win cr (by omega) (by intro r k a b; omega) (by exact hbd) (Nat.lt_succ_self _)
  intro f2
  induction f2 with
  | zero => exact fun _ _ _ _ _ _ _ _ _ _ _ _ _ _ hf => absurd hf (Nat.not_lt_zero _)
  | succ f2 ih2 =>
    intro row p6 d6 mm6 sn6 bd6 ch6 vi1 per6 win6 cr6 hrow hv1 hb6 hf2
    refine y_iload_n C 1 dX5_pictures_2 rfl ?_
    refine y_bipush C dX5_pictures_3 (by decide +kernel) ?_
    refine y_icmp_ge C 48 dX5_pictures_5 (by decide) ⟨⟨by omega, by omega⟩, ⟨by omega, by omega⟩⟩ (fun c_1 => ?_) (fun c_1 => ?_)
    · obtain rfl : row = 8 := by omega
      have hvr : ∀ k : Int, 0 ≤ k → k < 256 → -4 ≤ vi1 k ∧ vi1 k ≤ 4 := fun k a b => by have e1 := hv1 (k / 32) (k % 32) (by omega) (by omega) (by omega) (by omega); have e2 := seeR_r u (k / 32) (k % 32); rw [show k / 32 * 32 + k % 32 = k by omega] at e1; omega
      refine y_iconst C dX5_pictures_48 ?_
      refine y_istore_n C [(1, .int (zI 0)), (0, .ref x)] dX5_pictures_49 (by decide) rfl ?_
      refine y_iconst C dX5_pictures_50 ?_
      refine y_istore_n C [(2, .int (zI 0)), (1, .int (zI 0)), (0, .ref x)] dX5_pictures_51 (by decide) rfl ?_
      refine y_lsub C [2, 1, 0] (lv' := [(0, .ref x), (1, .int (zI 0)), (2, .int (zI 0))]) rfl ?_
      suffices hL52 : ∀ (fu : Nat) (n : Int) (j : Int), (0 ≤ j ∧ j ≤ 8) → (n = zcnt (fun r : Int => ∀ q : Int, 0 ≤ q → q < r → ¬ ∀ k : Int, 0 ≤ k → k < 32 → seeR u r k = seeR u q k) j ∧ 0 ≤ n ∧ n ≤ j) → (8 - j).toNat < fu → K 0 0 [cO x 5 [.ref s, .ref ss, .int (zI has), .ref hh, .ref pd, .ref h, .ref g, .ref vw, .ref rk], cO h 1 [.ref a0, .ref a1, .ref a2, .ref a3, .ref a4, .ref a5, .int (zI per6), .int (zI win6), .int (zI cr6)], cI cA a0 32 p6, cI cA a1 32 d6, cI cA a2 32 mm6, cI cA a3 32 sn6, cI cA a4 32 bd6, cI cA a5 32 ch6, cI cA vw 256 vi1, cO s 4 [.ref b0, .ref b1, .ref b2, .ref b3, .ref b4, .int (zI len), .int (zI lot)], cI cA b0 256 P, cI cA b1 256 Q, cI cA b2 256 M, cI cA b3 6 S] [(0, .ref x), (1, .int (zI n)), (2, .int (zI j))] 52 [] from hL52 _ 0 0 (by omega) (by exact ⟨rfl, by omega, by omega⟩) (Nat.lt_succ_self _)
      intro f52
      induction f52 with
      | zero => exact fun _ _ _ _ hf => absurd hf (Nat.not_lt_zero _)
      | succ f52 ih52 =>
        intro n j hj hn hf52
        refine y_iload_n C 2 dX5_pictures_52 rfl ?_
        refine y_bipush C dX5_pictures_53 (by decide +kernel) ?_
        refine y_icmp_ge C 75 dX5_pictures_55 (by decide) ⟨⟨by omega, by omega⟩, ⟨by omega, by omega⟩⟩ (fun c_2 => ?_) (fun c_2 => ?_)
        · refine y_iload_n C 1 dX5_pictures_75 rfl ?_
          refine hret _ _ _ _ dX5_pictures_76 ⟨per6, win6, cr6, p6, d6, mm6, sn6, bd6, ch6, vi1, rfl, ?_⟩
          show (n = picsZ u) ∧ (∀ k : Int, 0 ≤ k → k < 32 → 0 ≤ bd6 k ∧ bd6 k ≤ 32)
          obtain rfl : j = 8 := by omega
          exact ⟨hn.1, hb6⟩
        · refine y_aload_n C 0 dX5_pictures_58 rfl ?_
          refine y_iload_n C 2 dX5_pictures_59 rfl ?_
          refine y_pcall C (m_X5_isNewPicture (l := l) (D := D) (cA := cA) (cB := cB) (x := x) (ss := ss) (hh := hh) (pd := pd) (g := g) (vw := vw) (rk := rk) (has := has) (s := s) (h := h) (vi := vi1) (row := j) (by first | assumption | omega | exact ⟨by omega, by omega⟩) (by first | assumption | omega | exact ⟨by omega, by omega⟩)) lk_X5_197 [0, 8] [1, 2, 3, 4, 5, 6, 7, 9, 10, 11, 12, 13] [12, 0, 1, 2, 3, 4, 5, 6, 13, 7, 8, 9, 10, 11] ⟨rfl, rfl, by decide, by decide, by decide⟩ ⟨rfl, by decide⟩ rfl rfl dX5_pictures_60 rfl rfl ⟨by exact Nat.le_of_ble_eq_true rfl, by exact Nat.le_of_ble_eq_true rfl, rfl, rfl, by exact Nat.le_of_ble_eq_true rfl, by exact Nat.le_of_ble_eq_true rfl, by exact Nat.le_of_ble_eq_true rfl⟩ (fun r_4 h_3 => ?_)
          have hnp := h_3
          have hnq : (∀ q : Int, 0 ≤ q → q < j → ¬ ∀ k : Int, 0 ≤ k → k < 32 → vi1 (j * 32 + k) = vi1 (q * 32 + k)) ↔ (fun r : Int => ∀ q : Int, 0 ≤ q → q < r → ¬ ∀ k : Int, 0 ≤ k → k < 32 → seeR u r k = seeR u q k) j := by constructor <;> exact fun y q a b z => y q a b (fun k c d => by first | (rw [← hv1 j k (by omega) (by omega) c d, ← hv1 q k a (by omega) c d]; exact z k c d) | (rw [hv1 j k (by omega) (by omega) c d, hv1 q k a (by omega) c d]; exact z k c d))
          refine y_if_eq C 69 dX5_pictures_63 (by decide) ⟨by omega, by omega⟩ (fun c_5 => ?_) (fun c_5 => ?_)
          · refine y_iinc C 2 [(2, .int (zI (j + 1))), (0, .ref x), (1, .int (zI n))] dX5_pictures_69 rfl (by decide) rfl ?_
            refine y_goto C 52 dX5_pictures_72 (by decide) ?_
            refine y_lsub C [1, 2, 0] (lv' := [(0, .ref x), (1, .int (zI n)), (2, .int (zI (j + 1)))]) rfl ?_
            exact ih52 n (j + 1) (by omega) (by refine ⟨?_, by omega, by omega⟩; exact zcnt_step (by omega) hn.1 (by rcases hnp with z | z; (first | exact Or.inl ⟨hnq.mp z.2, by omega⟩ | (exfalso; omega)); (first | exact Or.inr ⟨fun y => z.2 (hnq.mpr y), by omega⟩ | (exfalso; omega)))) (by omega)
          · refine y_iinc C 1 [(1, .int (zI (n + 1))), (0, .ref x), (2, .int (zI j))] dX5_pictures_66 rfl (by decide) rfl ?_
            refine y_iinc C 2 [(2, .int (zI (j + 1))), (1, .int (zI (n + 1))), (0, .ref x)] dX5_pictures_69 rfl (by decide) rfl ?_
            refine y_goto C 52 dX5_pictures_72 (by decide) ?_
            refine y_lsub C [2, 1, 0] (lv' := [(0, .ref x), (1, .int (zI (n + 1))), (2, .int (zI (j + 1)))]) rfl ?_
            exact ih52 (n + 1) (j + 1) (by omega) (by refine ⟨?_, by omega, by omega⟩; exact zcnt_step (by omega) hn.1 (by rcases hnp with z | z; (first | exact Or.inl ⟨hnq.mp z.2, by omega⟩ | (exfalso; omega)); (first | exact Or.inr ⟨fun y => z.2 (hnq.mpr y), by omega⟩ | (exfalso; omega)))) (by omega)
    · refine y_aload_n C 0 dX5_pictures_8 rfl ?_
      refine y_get C fg_X5_36 0 dX5_pictures_9 rfl rfl ?_
      refine y_aload_n C 0 dX5_pictures_12 rfl ?_
      refine y_get C fg_X5_12 0 dX5_pictures_13 rfl rfl ?_
      refine y_iload_n C 1 dX5_pictures_16 rfl ?_
      refine y_mcallv C (m_X1_study (l := l) (D := D) (cA := cA) (cB := cB) (h := h) (a0 := a0) (a1 := a1) (a2 := a2) (a3 := a3) (a4 := a4) (a5 := a5) (per := per6) (win := win6) (cr := cr6) (s := s) (b0 := b0) (b1 := b1) (b2 := b2) (b3 := b3) (b4 := b4) (len := len) (lot := lot) (p := p6) (d := d6) (mm := mm6) (sn := sn6) (bd := bd6) (ch := ch6) (P := P) (Q := Q) (M := M) (S := S) (row := row) (by first | assumption | omega | exact ⟨by omega, by omega⟩) (by first | assumption | omega | exact ⟨by omega, by omega⟩) (by first | assumption | omega | exact ⟨by omega, by omega⟩) (by first | assumption | omega | exact ⟨by omega, by omega⟩) (by first | assumption | omega | exact ⟨by omega, by omega⟩)) lk_X5_146 [1, 2, 3, 4, 5, 6, 7, 9, 10, 11, 12, 13] [0, 8] ⟨rfl, rfl, by decide, by decide, by decide⟩ (jb := 0) rfl rfl dX5_pictures_17 rfl rfl ⟨by exact Nat.le_of_ble_eq_true rfl, by exact Nat.le_of_ble_eq_true rfl, rfl, rfl, by exact Nat.le_of_ble_eq_true rfl, by exact Nat.le_of_ble_eq_true rfl, by exact Nat.le_of_ble_eq_true rfl⟩ (fun w_14 h_6 => ?_)
      obtain ⟨p4_8, d4_9, mm4_10, sn4_11, bd4_12, ch4_13, rfl, h_6⟩ := h_6
      refine ⟨[0, 2, 3, 4, 5, 6, 7, 8, 1, 9, 10, 11, 12, 13], [cO x 5 [.ref s, .ref ss, .int (zI has), .ref hh, .ref pd, .ref h, .ref g, .ref vw, .ref rk], cO h 1 [.ref a0, .ref a1, .ref a2, .ref a3, .ref a4, .ref a5, .int (zI (u 0)), .int (zI (u 2)), .int (zI (u 3))], cI cA a0 32 p4_8, cI cA a1 32 d4_9, cI cA a2 32 mm4_10, cI cA a3 32 sn4_11, cI cA a4 32 bd4_12, cI cA a5 32 ch4_13, cI cA vw 256 vi1, cO s 4 [.ref b0, .ref b1, .ref b2, .ref b3, .ref b4, .int (zI len), .int (zI lot)], cI cA b0 256 P, cI cA b1 256 Q, cI cA b2 256 M, cI cA b3 6 S], ⟨rfl, by decide⟩, ?_⟩
      obtain ⟨hp4, hd4, hm4, hs4, hb4, hc4⟩ := h_6
      have hp5 : ∀ k : Int, 0 ≤ k → k < 32 → 0 ≤ p4_8 k ∧ p4_8 k ≤ 4 := fun k h0 h1 => by rw [hp4 k h0 h1]; exact (zp_of hRP (by omega) h0 h1).2
      have hd5 : ∀ k : Int, 0 ≤ k → k < 32 → 0 ≤ d4_9 k ∧ d4_9 k ≤ 7 := fun k h0 h1 => by rw [hd4 k h0 h1]; exact (zd_of hRQ (by omega) h0 h1).2
      have hm5 : ∀ k : Int, 0 ≤ k → k < 32 → -4 ≤ mm4_10 k ∧ mm4_10 k ≤ 7 := fun k h0 h1 => by rw [hm4 k h0 h1]; exact (zk_of hRM (by omega) h0 h1).2
      have hs5 : ∀ k : Int, 0 ≤ k → k < 32 → -4 ≤ sn4_11 k ∧ sn4_11 k ≤ 4 := fun k h0 h1 => by rw [hs4 k h0 h1]; have := seeR_r u row k; omega
      have hb5 : ∀ k : Int, 0 ≤ k → k < 32 → 0 ≤ bd4_12 k ∧ bd4_12 k ≤ 32 := fun k h0 h1 => by rw [hb4 k h0 h1]; exact bndZ_r _ _ _
      have hpu : ∀ k : Int, 0 ≤ k → k < 32 → p4_8 k < u 0 := fun k h0 h1 => by have := hp5 k h0 h1; omega
      have hc5 : ∀ k : Int, 0 ≤ k → k < 32 → 0 ≤ ch4_13 k ∧ ch4_13 k ≤ 31 := fun k h0 h1 => by rw [hc4 k h0 h1]; have := chZ_r (per := u 0) (p := zp u row) (fun j a b => by rw [← hp4 j a b]; exact hpu j a b) ⟨h0, h1⟩; unfold chnR; omega
      refine y_aload_n C 0 dX5_pictures_20 rfl ?_
      refine y_get C fg_X5_36 0 dX5_pictures_21 rfl rfl ?_
      refine y_get C fg_X5_150 1 dX5_pictures_24 rfl rfl ?_
      refine y_iconst C dX5_pictures_27 ?_
      refine y_aload_n C 0 dX5_pictures_28 rfl ?_
      refine y_get C fg_X5_43 0 dX5_pictures_29 rfl rfl ?_
      refine y_iload_n C 1 dX5_pictures_32 rfl ?_
      refine y_iconst C dX5_pictures_33 ?_
      refine y_pcalls C (m_X5_placeOf (l := l) (D := D) (cA := cA) (cB := cB) (x := row) (y := 0) ) lk_X5_80 [] [0, 1, 2, 3, 4, 5, 6, 7, 8, 9, 10, 11, 12, 13] [0, 1, 2, 3, 4, 5, 6, 7, 8, 9, 10, 11, 12, 13] ⟨rfl, rfl, by decide, by decide, by decide⟩ ⟨rfl, by decide⟩ dX5_pictures_34 rfl rfl ⟨by exact Nat.le_of_ble_eq_true rfl, by exact Nat.le_of_ble_eq_true rfl, rfl, rfl, by exact Nat.le_of_ble_eq_true rfl, by exact Nat.le_of_ble_eq_true rfl, by exact Nat.le_of_ble_eq_true rfl⟩ (fun r_16 h_15 => ?_)
      have hpl := h_15
      refine y_bipush C dX5_pictures_37 (by decide +kernel) ?_
      refine y_copy C lk_X5_191 5 8 0 [cO x 5 [.ref s, .ref ss, .int (zI has), .ref hh, .ref pd, .ref h, .ref g, .ref vw, .ref rk], cO h 1 [.ref a0, .ref a1, .ref a2, .ref a3, .ref a4, .ref a5, .int (zI (u 0)), .int (zI (u 2)), .int (zI (u 3))], cI cA a0 32 p4_8, cI cA a1 32 d4_9, cI cA a2 32 mm4_10, cI cA a3 32 sn4_11, cI cA a4 32 bd4_12, cI cA a5 32 ch4_13, cI cA vw 256 (zC sn4_11 vi1 0 r_16 32), cO s 4 [.ref b0, .ref b1, .ref b2, .ref b3, .ref b4, .int (zI len), .int (zI lot)], cI cA b0 256 P, cI cA b1 256 Q, cI cA b2 256 M, cI cA b3 6 S] dX5_pictures_39 rfl rfl rfl ⟨by omega, by omega, by omega, by omega, by omega, by omega, by omega⟩ ⟨by exact Nat.le_of_ble_eq_true rfl, by exact Nat.le_of_ble_eq_true rfl⟩ rfl ?_
      refine y_iinc C 1 [(1, .int (zI (row + 1))), (0, .ref x)] dX5_pictures_42 rfl (by decide) rfl ?_
      refine y_goto C 2 dX5_pictures_45 (by decide) ?_
      refine y_lsub C [1, 0] (lv' := [(0, .ref x), (1, .int (zI (row + 1)))]) rfl ?_
      exact ih2 (row + 1) p4_8 d4_9 mm4_10 sn4_11 bd4_12 ch4_13 (zC sn4_11 vi1 0 r_16 32) (u 0) (u 2) (u 3) (by omega) (by intro r k a b c d; rcases (show r < row ∨ r = row from by omega) with e | e; rw [zC_out (by omega)]; exact hv1 r k a e c d; rw [zC_in (by omega) (by omega), e, ← hs4 k (by omega) (by omega)]; congr 1; omega) (by exact hb5) (by omega)

set_option maxHeartbeats 4000000 in
set_option maxRecDepth 100000 in
theorem m_X5_count {l : Launch} {D : va_G} {cA cB : ClassId} {x ss hh pd g vw rk : Nat} {has : Int} {h a0 a1 a2 a3 a4 a5 : Nat} {per win cr : Int} {p d mm sn bd ch : Int → Int} {s b0 b1 b2 b3 b4 : Nat} {len lot : Int} {u P Q M S T : Int → Int} {pc pr hk : Nat} {pl stt : Int} {wh : Int} (hzwh : zR wh) (hbd : ∀ k : Int, 0 ≤ k → k < 32 → 0 ≤ bd k ∧ bd k ≤ 32) (hrel : Rel u S P Q M T len lot) : MI l yX5_count cX5_count 2 .int { frames := 6, cells := 0, slots := 0, locals := 134 } D (zT cA cB) [.ref x, .int (zI wh)] [cO x 5 [.ref s, .ref ss, .int (zI has), .ref hh, .ref pd, .ref h, .ref g, .ref vw, .ref rk], cO pd 2 [.ref pc, .ref pr, .int (zI pl)], cO hh 0 [.ref hk, .int (zI stt)], cO h 1 [.ref a0, .ref a1, .ref a2, .ref a3, .ref a4, .ref a5, .int (zI per), .int (zI win), .int (zI cr)], cI cA a0 32 p, cI cA a1 32 d, cI cA a2 32 mm, cI cA a3 32 sn, cI cA a4 32 bd, cI cA a5 32 ch, cO s 4 [.ref b0, .ref b1, .ref b2, .ref b3, .ref b4, .int (zI len), .int (zI lot)], cI cA b0 256 P, cI cA b1 256 Q, cI cA b2 256 M, cI cA b3 6 S] (fun r w => ∃ (perx : Int), ∃ (winx : Int), ∃ (crx : Int), ∃ (px : Int → Int), ∃ (dx : Int → Int), ∃ (mmx : Int → Int), ∃ (snx : Int → Int), ∃ (bdx : Int → Int), ∃ (chx : Int → Int), w = [cO x 5 [.ref s, .ref ss, .int (zI has), .ref hh, .ref pd, .ref h, .ref g, .ref vw, .ref rk], cO pd 2 [.ref pc, .ref pr, .int (zI pl)], cO hh 0 [.ref hk, .int (zI stt)], cO h 1 [.ref a0, .ref a1, .ref a2, .ref a3, .ref a4, .ref a5, .int (zI perx), .int (zI winx), .int (zI crx)], cI cA a0 32 px, cI cA a1 32 dx, cI cA a2 32 mmx, cI cA a3 32 snx, cI cA a4 32 bdx, cI cA a5 32 chx, cO s 4 [.ref b0, .ref b1, .ref b2, .ref b3, .ref b4, .int (zI len), .int (zI lot)], cI cA b0 256 P, cI cA b1 256 Q, cI cA b2 256 M, cI cA b3 6 S] ∧ (r = ansCount u pl stt wh) ∧ (∀ k : Int, 0 ≤ k → k < 32 → 0 ≤ bdx k ∧ bdx k ≤ 32)) := by
  refine MI.of RX5 ⟨rfl, by decide +kernel⟩ (Or.inl rfl) (Nat.le_of_ble_eq_true rfl) (fun h => by cases h) ?_
  intro K C hret
  change K 0 0 _ [(0, .ref x), (1, .int (zI wh))] 0 []
  have hRS := hrel.S
  have hRP := hrel.P
  have hRQ := hrel.Q
  have hRM := hrel.M
  have hu := hRS.2
  have hzwh1 := hzwh.1
  have hzwh2 := hzwh.2
  refine y_iload_n C 1 dX5_count_0 rfl ?_
  refine y_if_lt C 10 dX5_count_1 (by decide) ⟨by omega, by omega⟩ (fun c_1 => ?_) (fun c_1 => ?_)
  · refine y_iconst C dX5_count_10 ?_
    refine hret _ _ _ _ dX5_count_11 ⟨per, win, cr, p, d, mm, sn, bd, ch, rfl, ?_⟩
    show ((-1) = ansCount u pl stt wh) ∧ (∀ k : Int, 0 ≤ k → k < 32 → 0 ≤ bd k ∧ bd k ≤ 32)
    refine ⟨?_, hbd⟩
    unfold ansCount
    rw [if_pos (by omega)]
  · refine y_iload_n C 1 dX5_count_4 rfl ?_
    refine y_bipush C dX5_count_5 (by decide +kernel) ?_
    refine y_icmp_le C 12 dX5_count_7 (by decide) ⟨⟨by omega, by omega⟩, ⟨by omega, by omega⟩⟩ (fun c_2 => ?_) (fun c_2 => ?_)
    · refine y_iload_n C 1 dX5_count_12 rfl ?_
      refine y_bipush C dX5_count_13 (by decide +kernel) ?_
      refine y_icmp_lt C 31 dX5_count_15 (by decide) ⟨⟨by omega, by omega⟩, ⟨by omega, by omega⟩⟩ (fun c_3 => ?_) (fun c_3 => ?_)
      · refine y_iload_n C 1 dX5_count_31 rfl ?_
        rcases (show wh = 0 ∨ wh = 1 ∨ wh = 2 ∨ wh = 3 ∨ wh = 4 ∨ wh = 5 ∨ wh = 6 ∨ wh = 7 ∨ wh = 8 ∨ wh = 9 ∨ wh = 10 ∨ wh = 11 ∨ wh = 12 ∨ (wh < 0 ∨ 12 < wh) from by omega) with s_4 | s_4 | s_4 | s_4 | s_4 | s_4 | s_4 | s_4 | s_4 | s_4 | s_4 | s_4 | s_4 | s_4
        · refine y_tin C 100 0 dX5_count_32 ⟨by omega, by omega⟩ ⟨by omega, by omega⟩ (by omega) rfl (by decide) ?_
          refine y_aload_n C 0 dX5_count_100 rfl ?_
          refine y_get C fg_X5_12 0 dX5_count_101 rfl rfl ?_
          refine y_pcall C (m_X4_planesAboveZero (l := l) (D := D) (cA := cA) (cB := cB) (s := s) (b0 := b0) (b1 := b1) (b2 := b2) (b3 := b3) (b4 := b4) (len := len) (lot := lot) (P := P) (by exact fun k a b => by have := hRP k a b; omega)) lk_X5_200 [10, 11] [0, 1, 2, 3, 4, 5, 6, 7, 8, 9, 12, 13, 14] [0, 1, 2, 3, 4, 5, 6, 7, 8, 9, 13, 14, 10, 11, 12] ⟨rfl, rfl, by decide, by decide, by decide⟩ ⟨rfl, by decide⟩ rfl rfl dX5_count_104 rfl rfl ⟨by exact Nat.le_of_ble_eq_true rfl, by exact Nat.le_of_ble_eq_true rfl, rfl, rfl, by exact Nat.le_of_ble_eq_true rfl, by exact Nat.le_of_ble_eq_true rfl, by exact Nat.le_of_ble_eq_true rfl⟩ (fun r_6 h_5 => ?_)
          have hv := h_5
          refine hret _ _ _ _ dX5_count_107 ⟨per, win, cr, p, d, mm, sn, bd, ch, rfl, ?_⟩
          show (r_6 = ansCount u pl stt wh) ∧ (∀ k : Int, 0 ≤ k → k < 32 → 0 ≤ bd k ∧ bd k ≤ 32)
          refine ⟨?_, hbd⟩
          unfold ansCount
          rw [if_neg (by omega), if_neg (by omega), if_pos (by omega), hv.1]
          exact zcnt_congr (fun k a b => by rw [(hRP k a b).1])
        · refine y_tin C 140 1 dX5_count_32 ⟨by omega, by omega⟩ ⟨by omega, by omega⟩ (by omega) rfl (by decide) ?_
          refine y_aload_n C 0 dX5_count_140 rfl ?_
          refine y_iload_n C 1 dX5_count_141 rfl ?_
          refine y_iconst C dX5_count_142 ?_
          refine y_isub C dX5_count_143 ?_
          refine y_mcalli C (m_X5_allPlacesOfKind (l := l) (D := D) (cA := cA) (cB := cB) (x := x) (ss := ss) (hh := hh) (pd := pd) (g := g) (vw := vw) (rk := rk) (has := has) (h := h) (a0 := a0) (a1 := a1) (a2 := a2) (a3 := a3) (a4 := a4) (a5 := a5) (per := per) (win := win) (cr := cr) (p := p) (d := d) (mm := mm) (sn := sn) (bd := bd) (ch := ch) (s := s) (b0 := b0) (b1 := b1) (b2 := b2) (b3 := b3) (b4 := b4) (len := len) (lot := lot) (P := P) (Q := Q) (M := M) (S := S) (kind := wh - 1) (by first | assumption | omega | exact ⟨by omega, by omega⟩) (by first | assumption | omega | exact ⟨by omega, by omega⟩) (by first | assumption | omega | exact ⟨by omega, by omega⟩)) lk_X5_206 [0, 3, 4, 5, 6, 7, 8, 9, 10, 11, 12, 13, 14] [1, 2] ⟨rfl, rfl, by decide, by decide, by decide⟩ (jb := 0) rfl rfl dX5_count_144 rfl rfl ⟨by exact Nat.le_of_ble_eq_true rfl, by exact Nat.le_of_ble_eq_true rfl, rfl, rfl, by exact Nat.le_of_ble_eq_true rfl, by exact Nat.le_of_ble_eq_true rfl, by exact Nat.le_of_ble_eq_true rfl⟩ (fun r_8 w_18 h_7 => ?_)
          obtain ⟨perx_9, winx_10, crx_11, px_12, dx_13, mmx_14, snx_15, bdx_16, chx_17, rfl, h_7⟩ := h_7
          refine ⟨[2, 0, 1, 3, 4, 5, 6, 7, 8, 9, 10, 11, 12, 13, 14], [cO x 5 [.ref s, .ref ss, .int (zI has), .ref hh, .ref pd, .ref h, .ref g, .ref vw, .ref rk], cO pd 2 [.ref pc, .ref pr, .int (zI pl)], cO hh 0 [.ref hk, .int (zI stt)], cO h 1 [.ref a0, .ref a1, .ref a2, .ref a3, .ref a4, .ref a5, .int (zI perx_9), .int (zI winx_10), .int (zI crx_11)], cI cA a0 32 px_12, cI cA a1 32 dx_13, cI cA a2 32 mmx_14, cI cA a3 32 snx_15, cI cA a4 32 bdx_16, cI cA a5 32 chx_17, cO s 4 [.ref b0, .ref b1, .ref b2, .ref b3, .ref b4, .int (zI len), .int (zI lot)], cI cA b0 256 P, cI cA b1 256 Q, cI cA b2 256 M, cI cA b3 6 S], ⟨rfl, by decide⟩, ?_⟩
          have hv := h_7
          refine hret _ _ _ _ dX5_count_147 ⟨perx_9, winx_10, crx_11, px_12, dx_13, mmx_14, snx_15, bdx_16, chx_17, rfl, ?_⟩
          show (r_8 = ansCount u pl stt wh) ∧ (∀ k : Int, 0 ≤ k → k < 32 → 0 ≤ bdx_16 k ∧ bdx_16 k ≤ 32)
          refine ⟨?_, hv.2.2⟩
          unfold ansCount
          rw [if_neg (by omega), if_neg (by omega), if_neg (by omega), if_neg (by omega), if_neg (by omega), if_neg (by omega), if_neg (by omega)]
          exact hv.1
        · refine y_tin C 140 2 dX5_count_32 ⟨by omega, by omega⟩ ⟨by omega, by omega⟩ (by omega) rfl (by decide) ?_
          refine y_aload_n C 0 dX5_count_140 rfl ?_
          refine y_iload_n C 1 dX5_count_141 rfl ?_
          refine y_iconst C dX5_count_142 ?_
          refine y_isub C dX5_count_143 ?_
          refine y_mcalli C (m_X5_allPlacesOfKind (l := l) (D := D) (cA := cA) (cB := cB) (x := x) (ss := ss) (hh := hh) (pd := pd) (g := g) (vw := vw) (rk := rk) (has := has) (h := h) (a0 := a0) (a1 := a1) (a2 := a2) (a3 := a3) (a4 := a4) (a5 := a5) (per := per) (win := win) (cr := cr) (p := p) (d := d) (mm := mm) (sn := sn) (bd := bd) (ch := ch) (s := s) (b0 := b0) (b1 := b1) (b2 := b2) (b3 := b3) (b4 := b4) (len := len) (lot := lot) (P := P) (Q := Q) (M := M) (S := S) (kind := wh - 1) (by first | assumption | omega | exact ⟨by omega, by omega⟩) (by first | assumption | omega | exact ⟨by omega, by omega⟩) (by first | assumption | omega | exact ⟨by omega, by omega⟩)) lk_X5_206 [0, 3, 4, 5, 6, 7, 8, 9, 10, 11, 12, 13, 14] [1, 2] ⟨rfl, rfl, by decide, by decide, by decide⟩ (jb := 0) rfl rfl dX5_count_144 rfl rfl ⟨by exact Nat.le_of_ble_eq_true rfl, by exact Nat.le_of_ble_eq_true rfl, rfl, rfl, by exact Nat.le_of_ble_eq_true rfl, by exact Nat.le_of_ble_eq_true rfl, by exact Nat.le_of_ble_eq_true rfl⟩ (fun r_20 w_30 h_19 => ?_)
          obtain ⟨perx_21, winx_22, crx_23, px_24, dx_25, mmx_26, snx_27, bdx_28, chx_29, rfl, h_19⟩ := h_19
          refine ⟨[2, 0, 1, 3, 4, 5, 6, 7, 8, 9, 10, 11, 12, 13, 14], [cO x 5 [.ref s, .ref ss, .int (zI has), .ref hh, .ref pd, .ref h, .ref g, .ref vw, .ref rk], cO pd 2 [.ref pc, .ref pr, .int (zI pl)], cO hh 0 [.ref hk, .int (zI stt)], cO h 1 [.ref a0, .ref a1, .ref a2, .ref a3, .ref a4, .ref a5, .int (zI perx_21), .int (zI winx_22), .int (zI crx_23)], cI cA a0 32 px_24, cI cA a1 32 dx_25, cI cA a2 32 mmx_26, cI cA a3 32 snx_27, cI cA a4 32 bdx_28, cI cA a5 32 chx_29, cO s 4 [.ref b0, .ref b1, .ref b2, .ref b3, .ref b4, .int (zI len), .int (zI lot)], cI cA b0 256 P, cI cA b1 256 Q, cI cA b2 256 M, cI cA b3 6 S], ⟨rfl, by decide⟩, ?_⟩
          have hv := h_19
          refine hret _ _ _ _ dX5_count_147 ⟨perx_21, winx_22, crx_23, px_24, dx_25, mmx_26, snx_27, bdx_28, chx_29, rfl, ?_⟩
          show (r_20 = ansCount u pl stt wh) ∧ (∀ k : Int, 0 ≤ k → k < 32 → 0 ≤ bdx_28 k ∧ bdx_28 k ≤ 32)
          refine ⟨?_, hv.2.2⟩
          unfold ansCount
          rw [if_neg (by omega), if_neg (by omega), if_neg (by omega), if_neg (by omega), if_neg (by omega), if_neg (by omega), if_neg (by omega)]
          exact hv.1
        · refine y_tin C 140 3 dX5_count_32 ⟨by omega, by omega⟩ ⟨by omega, by omega⟩ (by omega) rfl (by decide) ?_
          refine y_aload_n C 0 dX5_count_140 rfl ?_
          refine y_iload_n C 1 dX5_count_141 rfl ?_
          refine y_iconst C dX5_count_142 ?_
          refine y_isub C dX5_count_143 ?_
          refine y_mcalli C (m_X5_allPlacesOfKind (l := l) (D := D) (cA := cA) (cB := cB) (x := x) (ss := ss) (hh := hh) (pd := pd) (g := g) (vw := vw) (rk := rk) (has := has) (h := h) (a0 := a0) (a1 := a1) (a2 := a2) (a3 := a3) (a4 := a4) (a5 := a5) (per := per) (win := win) (cr := cr) (p := p) (d := d) (mm := mm) (sn := sn) (bd := bd) (ch := ch) (s := s) (b0 := b0) (b1 := b1) (b2 := b2) (b3 := b3) (b4 := b4) (len := len) (lot := lot) (P := P) (Q := Q) (M := M) (S := S) (kind := wh - 1) (by first | assumption | omega | exact ⟨by omega, by omega⟩) (by first | assumption | omega | exact ⟨by omega, by omega⟩) (by first | assumption | omega | exact ⟨by omega, by omega⟩)) lk_X5_206 [0, 3, 4, 5, 6, 7, 8, 9, 10, 11, 12, 13, 14] [1, 2] ⟨rfl, rfl, by decide, by decide, by decide⟩ (jb := 0) rfl rfl dX5_count_144 rfl rfl ⟨by exact Nat.le_of_ble_eq_true rfl, by exact Nat.le_of_ble_eq_true rfl, rfl, rfl, by exact Nat.le_of_ble_eq_true rfl, by exact Nat.le_of_ble_eq_true rfl, by exact Nat.le_of_ble_eq_true rfl⟩ (fun r_32 w_42 h_31 => ?_)
          obtain ⟨perx_33, winx_34, crx_35, px_36, dx_37, mmx_38, snx_39, bdx_40, chx_41, rfl, h_31⟩ := h_31
          refine ⟨[2, 0, 1, 3, 4, 5, 6, 7, 8, 9, 10, 11, 12, 13, 14], [cO x 5 [.ref s, .ref ss, .int (zI has), .ref hh, .ref pd, .ref h, .ref g, .ref vw, .ref rk], cO pd 2 [.ref pc, .ref pr, .int (zI pl)], cO hh 0 [.ref hk, .int (zI stt)], cO h 1 [.ref a0, .ref a1, .ref a2, .ref a3, .ref a4, .ref a5, .int (zI perx_33), .int (zI winx_34), .int (zI crx_35)], cI cA a0 32 px_36, cI cA a1 32 dx_37, cI cA a2 32 mmx_38, cI cA a3 32 snx_39, cI cA a4 32 bdx_40, cI cA a5 32 chx_41, cO s 4 [.ref b0, .ref b1, .ref b2, .ref b3, .ref b4, .int (zI len), .int (zI lot)], cI cA b0 256 P, cI cA b1 256 Q, cI cA b2 256 M, cI cA b3 6 S], ⟨rfl, by decide⟩, ?_⟩
          have hv := h_31
          refine hret _ _ _ _ dX5_count_147 ⟨perx_33, winx_34, crx_35, px_36, dx_37, mmx_38, snx_39, bdx_40, chx_41, rfl, ?_⟩
          show (r_32 = ansCount u pl stt wh) ∧ (∀ k : Int, 0 ≤ k → k < 32 → 0 ≤ bdx_40 k ∧ bdx_40 k ≤ 32)
          refine ⟨?_, hv.2.2⟩
          unfold ansCount
          rw [if_neg (by omega), if_neg (by omega), if_neg (by omega), if_neg (by omega), if_neg (by omega), if_neg (by omega), if_neg (by omega)]
          exact hv.1
        · refine y_tin C 140 4 dX5_count_32 ⟨by omega, by omega⟩ ⟨by omega, by omega⟩ (by omega) rfl (by decide) ?_
          refine y_aload_n C 0 dX5_count_140 rfl ?_
          refine y_iload_n C 1 dX5_count_141 rfl ?_
          refine y_iconst C dX5_count_142 ?_
          refine y_isub C dX5_count_143 ?_
          refine y_mcalli C (m_X5_allPlacesOfKind (l := l) (D := D) (cA := cA) (cB := cB) (x := x) (ss := ss) (hh := hh) (pd := pd) (g := g) (vw := vw) (rk := rk) (has := has) (h := h) (a0 := a0) (a1 := a1) (a2 := a2) (a3 := a3) (a4 := a4) (a5 := a5) (per := per) (win := win) (cr := cr) (p := p) (d := d) (mm := mm) (sn := sn) (bd := bd) (ch := ch) (s := s) (b0 := b0) (b1 := b1) (b2 := b2) (b3 := b3) (b4 := b4) (len := len) (lot := lot) (P := P) (Q := Q) (M := M) (S := S) (kind := wh - 1) (by first | assumption | omega | exact ⟨by omega, by omega⟩) (by first | assumption | omega | exact ⟨by omega, by omega⟩) (by first | assumption | omega | exact ⟨by omega, by omega⟩)) lk_X5_206 [0, 3, 4, 5, 6, 7, 8, 9, 10, 11, 12, 13, 14] [1, 2] ⟨rfl, rfl, by decide, by decide, by decide⟩ (jb := 0) rfl rfl dX5_count_144 rfl rfl ⟨by exact Nat.le_of_ble_eq_true rfl, by exact Nat.le_of_ble_eq_true rfl, rfl, rfl, by exact Nat.le_of_ble_eq_true rfl, by exact Nat.le_of_ble_eq_true rfl, by exact Nat.le_of_ble_eq_true rfl⟩ (fun r_44 w_54 h_43 => ?_)
          obtain ⟨perx_45, winx_46, crx_47, px_48, dx_49, mmx_50, snx_51, bdx_52, chx_53, rfl, h_43⟩ := h_43
          refine ⟨[2, 0, 1, 3, 4, 5, 6, 7, 8, 9, 10, 11, 12, 13, 14], [cO x 5 [.ref s, .ref ss, .int (zI has), .ref hh, .ref pd, .ref h, .ref g, .ref vw, .ref rk], cO pd 2 [.ref pc, .ref pr, .int (zI pl)], cO hh 0 [.ref hk, .int (zI stt)], cO h 1 [.ref a0, .ref a1, .ref a2, .ref a3, .ref a4, .ref a5, .int (zI perx_45), .int (zI winx_46), .int (zI crx_47)], cI cA a0 32 px_48, cI cA a1 32 dx_49, cI cA a2 32 mmx_50, cI cA a3 32 snx_51, cI cA a4 32 bdx_52, cI cA a5 32 chx_53, cO s 4 [.ref b0, .ref b1, .ref b2, .ref b3, .ref b4, .int (zI len), .int (zI lot)], cI cA b0 256 P, cI cA b1 256 Q, cI cA b2 256 M, cI cA b3 6 S], ⟨rfl, by decide⟩, ?_⟩
          have hv := h_43
          refine hret _ _ _ _ dX5_count_147 ⟨perx_45, winx_46, crx_47, px_48, dx_49, mmx_50, snx_51, bdx_52, chx_53, rfl, ?_⟩
          show (r_44 = ansCount u pl stt wh) ∧ (∀ k : Int, 0 ≤ k → k < 32 → 0 ≤ bdx_52 k ∧ bdx_52 k ≤ 32)
          refine ⟨?_, hv.2.2⟩
          unfold ansCount
          rw [if_neg (by omega), if_neg (by omega), if_neg (by omega), if_neg (by omega), if_neg (by omega), if_neg (by omega), if_neg (by omega)]
          exact hv.1
        · refine y_tin C 140 5 dX5_count_32 ⟨by omega, by omega⟩ ⟨by omega, by omega⟩ (by omega) rfl (by decide) ?_
          refine y_aload_n C 0 dX5_count_140 rfl ?_
          refine y_iload_n C 1 dX5_count_141 rfl ?_
          refine y_iconst C dX5_count_142 ?_
          refine y_isub C dX5_count_143 ?_
          refine y_mcalli C (m_X5_allPlacesOfKind (l := l) (D := D) (cA := cA) (cB := cB) (x := x) (ss := ss) (hh := hh) (pd := pd) (g := g) (vw := vw) (rk := rk) (has := has) (h := h) (a0 := a0) (a1 := a1) (a2 := a2) (a3 := a3) (a4 := a4) (a5 := a5) (per := per) (win := win) (cr := cr) (p := p) (d := d) (mm := mm) (sn := sn) (bd := bd) (ch := ch) (s := s) (b0 := b0) (b1 := b1) (b2 := b2) (b3 := b3) (b4 := b4) (len := len) (lot := lot) (P := P) (Q := Q) (M := M) (S := S) (kind := wh - 1) (by first | assumption | omega | exact ⟨by omega, by omega⟩) (by first | assumption | omega | exact ⟨by omega, by omega⟩) (by first | assumption | omega | exact ⟨by omega, by omega⟩)) lk_X5_206 [0, 3, 4, 5, 6, 7, 8, 9, 10, 11, 12, 13, 14] [1, 2] ⟨rfl, rfl, by decide, by decide, by decide⟩ (jb := 0) rfl rfl dX5_count_144 rfl rfl ⟨by exact Nat.le_of_ble_eq_true rfl, by exact Nat.le_of_ble_eq_true rfl, rfl, rfl, by exact Nat.le_of_ble_eq_true rfl, by exact Nat.le_of_ble_eq_true rfl, by exact Nat.le_of_ble_eq_true rfl⟩ (fun r_56 w_66 h_55 => ?_)
          obtain ⟨perx_57, winx_58, crx_59, px_60, dx_61, mmx_62, snx_63, bdx_64, chx_65, rfl, h_55⟩ := h_55
          refine ⟨[2, 0, 1, 3, 4, 5, 6, 7, 8, 9, 10, 11, 12, 13, 14], [cO x 5 [.ref s, .ref ss, .int (zI has), .ref hh, .ref pd, .ref h, .ref g, .ref vw, .ref rk], cO pd 2 [.ref pc, .ref pr, .int (zI pl)], cO hh 0 [.ref hk, .int (zI stt)], cO h 1 [.ref a0, .ref a1, .ref a2, .ref a3, .ref a4, .ref a5, .int (zI perx_57), .int (zI winx_58), .int (zI crx_59)], cI cA a0 32 px_60, cI cA a1 32 dx_61, cI cA a2 32 mmx_62, cI cA a3 32 snx_63, cI cA a4 32 bdx_64, cI cA a5 32 chx_65, cO s 4 [.ref b0, .ref b1, .ref b2, .ref b3, .ref b4, .int (zI len), .int (zI lot)], cI cA b0 256 P, cI cA b1 256 Q, cI cA b2 256 M, cI cA b3 6 S], ⟨rfl, by decide⟩, ?_⟩
          have hv := h_55
          refine hret _ _ _ _ dX5_count_147 ⟨perx_57, winx_58, crx_59, px_60, dx_61, mmx_62, snx_63, bdx_64, chx_65, rfl, ?_⟩
          show (r_56 = ansCount u pl stt wh) ∧ (∀ k : Int, 0 ≤ k → k < 32 → 0 ≤ bdx_64 k ∧ bdx_64 k ≤ 32)
          refine ⟨?_, hv.2.2⟩
          unfold ansCount
          rw [if_neg (by omega), if_neg (by omega), if_neg (by omega), if_neg (by omega), if_neg (by omega), if_neg (by omega), if_neg (by omega)]
          exact hv.1
        · refine y_tin C 140 6 dX5_count_32 ⟨by omega, by omega⟩ ⟨by omega, by omega⟩ (by omega) rfl (by decide) ?_
          refine y_aload_n C 0 dX5_count_140 rfl ?_
          refine y_iload_n C 1 dX5_count_141 rfl ?_
          refine y_iconst C dX5_count_142 ?_
          refine y_isub C dX5_count_143 ?_
          refine y_mcalli C (m_X5_allPlacesOfKind (l := l) (D := D) (cA := cA) (cB := cB) (x := x) (ss := ss) (hh := hh) (pd := pd) (g := g) (vw := vw) (rk := rk) (has := has) (h := h) (a0 := a0) (a1 := a1) (a2 := a2) (a3 := a3) (a4 := a4) (a5 := a5) (per := per) (win := win) (cr := cr) (p := p) (d := d) (mm := mm) (sn := sn) (bd := bd) (ch := ch) (s := s) (b0 := b0) (b1 := b1) (b2 := b2) (b3 := b3) (b4 := b4) (len := len) (lot := lot) (P := P) (Q := Q) (M := M) (S := S) (kind := wh - 1) (by first | assumption | omega | exact ⟨by omega, by omega⟩) (by first | assumption | omega | exact ⟨by omega, by omega⟩) (by first | assumption | omega | exact ⟨by omega, by omega⟩)) lk_X5_206 [0, 3, 4, 5, 6, 7, 8, 9, 10, 11, 12, 13, 14] [1, 2] ⟨rfl, rfl, by decide, by decide, by decide⟩ (jb := 0) rfl rfl dX5_count_144 rfl rfl ⟨by exact Nat.le_of_ble_eq_true rfl, by exact Nat.le_of_ble_eq_true rfl, rfl, rfl, by exact Nat.le_of_ble_eq_true rfl, by exact Nat.le_of_ble_eq_true rfl, by exact Nat.le_of_ble_eq_true rfl⟩ (fun r_68 w_78 h_67 => ?_)
          obtain ⟨perx_69, winx_70, crx_71, px_72, dx_73, mmx_74, snx_75, bdx_76, chx_77, rfl, h_67⟩ := h_67
          refine ⟨[2, 0, 1, 3, 4, 5, 6, 7, 8, 9, 10, 11, 12, 13, 14], [cO x 5 [.ref s, .ref ss, .int (zI has), .ref hh, .ref pd, .ref h, .ref g, .ref vw, .ref rk], cO pd 2 [.ref pc, .ref pr, .int (zI pl)], cO hh 0 [.ref hk, .int (zI stt)], cO h 1 [.ref a0, .ref a1, .ref a2, .ref a3, .ref a4, .ref a5, .int (zI perx_69), .int (zI winx_70), .int (zI crx_71)], cI cA a0 32 px_72, cI cA a1 32 dx_73, cI cA a2 32 mmx_74, cI cA a3 32 snx_75, cI cA a4 32 bdx_76, cI cA a5 32 chx_77, cO s 4 [.ref b0, .ref b1, .ref b2, .ref b3, .ref b4, .int (zI len), .int (zI lot)], cI cA b0 256 P, cI cA b1 256 Q, cI cA b2 256 M, cI cA b3 6 S], ⟨rfl, by decide⟩, ?_⟩
          have hv := h_67
          refine hret _ _ _ _ dX5_count_147 ⟨perx_69, winx_70, crx_71, px_72, dx_73, mmx_74, snx_75, bdx_76, chx_77, rfl, ?_⟩
          show (r_68 = ansCount u pl stt wh) ∧ (∀ k : Int, 0 ≤ k → k < 32 → 0 ≤ bdx_76 k ∧ bdx_76 k ≤ 32)
          refine ⟨?_, hv.2.2⟩
          unfold ansCount
          rw [if_neg (by omega), if_neg (by omega), if_neg (by omega), if_neg (by omega), if_neg (by omega), if_neg (by omega), if_neg (by omega)]
          exact hv.1
        · refine y_tin C 140 7 dX5_count_32 ⟨by omega, by omega⟩ ⟨by omega, by omega⟩ (by omega) rfl (by decide) ?_
          refine y_aload_n C 0 dX5_count_140 rfl ?_
          refine y_iload_n C 1 dX5_count_141 rfl ?_
          refine y_iconst C dX5_count_142 ?_
          refine y_isub C dX5_count_143 ?_
          refine y_mcalli C (m_X5_allPlacesOfKind (l := l) (D := D) (cA := cA) (cB := cB) (x := x) (ss := ss) (hh := hh) (pd := pd) (g := g) (vw := vw) (rk := rk) (has := has) (h := h) (a0 := a0) (a1 := a1) (a2 := a2) (a3 := a3) (a4 := a4) (a5 := a5) (per := per) (win := win) (cr := cr) (p := p) (d := d) (mm := mm) (sn := sn) (bd := bd) (ch := ch) (s := s) (b0 := b0) (b1 := b1) (b2 := b2) (b3 := b3) (b4 := b4) (len := len) (lot := lot) (P := P) (Q := Q) (M := M) (S := S) (kind := wh - 1) (by first | assumption | omega | exact ⟨by omega, by omega⟩) (by first | assumption | omega | exact ⟨by omega, by omega⟩) (by first | assumption | omega | exact ⟨by omega, by omega⟩)) lk_X5_206 [0, 3, 4, 5, 6, 7, 8, 9, 10, 11, 12, 13, 14] [1, 2] ⟨rfl, rfl, by decide, by decide, by decide⟩ (jb := 0) rfl rfl dX5_count_144 rfl rfl ⟨by exact Nat.le_of_ble_eq_true rfl, by exact Nat.le_of_ble_eq_true rfl, rfl, rfl, by exact Nat.le_of_ble_eq_true rfl, by exact Nat.le_of_ble_eq_true rfl, by exact Nat.le_of_ble_eq_true rfl⟩ (fun r_80 w_90 h_79 => ?_)
          obtain ⟨perx_81, winx_82, crx_83, px_84, dx_85, mmx_86, snx_87, bdx_88, chx_89, rfl, h_79⟩ := h_79
          refine ⟨[2, 0, 1, 3, 4, 5, 6, 7, 8, 9, 10, 11, 12, 13, 14], [cO x 5 [.ref s, .ref ss, .int (zI has), .ref hh, .ref pd, .ref h, .ref g, .ref vw, .ref rk], cO pd 2 [.ref pc, .ref pr, .int (zI pl)], cO hh 0 [.ref hk, .int (zI stt)], cO h 1 [.ref a0, .ref a1, .ref a2, .ref a3, .ref a4, .ref a5, .int (zI perx_81), .int (zI winx_82), .int (zI crx_83)], cI cA a0 32 px_84, cI cA a1 32 dx_85, cI cA a2 32 mmx_86, cI cA a3 32 snx_87, cI cA a4 32 bdx_88, cI cA a5 32 chx_89, cO s 4 [.ref b0, .ref b1, .ref b2, .ref b3, .ref b4, .int (zI len), .int (zI lot)], cI cA b0 256 P, cI cA b1 256 Q, cI cA b2 256 M, cI cA b3 6 S], ⟨rfl, by decide⟩, ?_⟩
          have hv := h_79
          refine hret _ _ _ _ dX5_count_147 ⟨perx_81, winx_82, crx_83, px_84, dx_85, mmx_86, snx_87, bdx_88, chx_89, rfl, ?_⟩
          show (r_80 = ansCount u pl stt wh) ∧ (∀ k : Int, 0 ≤ k → k < 32 → 0 ≤ bdx_88 k ∧ bdx_88 k ≤ 32)
          refine ⟨?_, hv.2.2⟩
          unfold ansCount
          rw [if_neg (by omega), if_neg (by omega), if_neg (by omega), if_neg (by omega), if_neg (by omega), if_neg (by omega), if_neg (by omega)]
          exact hv.1
        · refine y_tin C 140 8 dX5_count_32 ⟨by omega, by omega⟩ ⟨by omega, by omega⟩ (by omega) rfl (by decide) ?_
          refine y_aload_n C 0 dX5_count_140 rfl ?_
          refine y_iload_n C 1 dX5_count_141 rfl ?_
          refine y_iconst C dX5_count_142 ?_
          refine y_isub C dX5_count_143 ?_
          refine y_mcalli C (m_X5_allPlacesOfKind (l := l) (D := D) (cA := cA) (cB := cB) (x := x) (ss := ss) (hh := hh) (pd := pd) (g := g) (vw := vw) (rk := rk) (has := has) (h := h) (a0 := a0) (a1 := a1) (a2 := a2) (a3 := a3) (a4 := a4) (a5 := a5) (per := per) (win := win) (cr := cr) (p := p) (d := d) (mm := mm) (sn := sn) (bd := bd) (ch := ch) (s := s) (b0 := b0) (b1 := b1) (b2 := b2) (b3 := b3) (b4 := b4) (len := len) (lot := lot) (P := P) (Q := Q) (M := M) (S := S) (kind := wh - 1) (by first | assumption | omega | exact ⟨by omega, by omega⟩) (by first | assumption | omega | exact ⟨by omega, by omega⟩) (by first | assumption | omega | exact ⟨by omega, by omega⟩)) lk_X5_206 [0, 3, 4, 5, 6, 7, 8, 9, 10, 11, 12, 13, 14] [1, 2] ⟨rfl, rfl, by decide, by decide, by decide⟩ (jb := 0) rfl rfl dX5_count_144 rfl rfl ⟨by exact Nat.le_of_ble_eq_true rfl, by exact Nat.le_of_ble_eq_true rfl, rfl, rfl, by exact Nat.le_of_ble_eq_true rfl, by exact Nat.le_of_ble_eq_true rfl, by exact Nat.le_of_ble_eq_true rfl⟩ (fun r_92 w_102 h_91 => ?_)
          obtain ⟨perx_93, winx_94, crx_95, px_96, dx_97, mmx_98, snx_99, bdx_100, chx_101, rfl, h_91⟩ := h_91
          refine ⟨[2, 0, 1, 3, 4, 5, 6, 7, 8, 9, 10, 11, 12, 13, 14], [cO x 5 [.ref s, .ref ss, .int (zI has), .ref hh, .ref pd, .ref h, .ref g, .ref vw, .ref rk], cO pd 2 [.ref pc, .ref pr, .int (zI pl)], cO hh 0 [.ref hk, .int (zI stt)], cO h 1 [.ref a0, .ref a1, .ref a2, .ref a3, .ref a4, .ref a5, .int (zI perx_93), .int (zI winx_94), .int (zI crx_95)], cI cA a0 32 px_96, cI cA a1 32 dx_97, cI cA a2 32 mmx_98, cI cA a3 32 snx_99, cI cA a4 32 bdx_100, cI cA a5 32 chx_101, cO s 4 [.ref b0, .ref b1, .ref b2, .ref b3, .ref b4, .int (zI len), .int (zI lot)], cI cA b0 256 P, cI cA b1 256 Q, cI cA b2 256 M, cI cA b3 6 S], ⟨rfl, by decide⟩, ?_⟩
          have hv := h_91
          refine hret _ _ _ _ dX5_count_147 ⟨perx_93, winx_94, crx_95, px_96, dx_97, mmx_98, snx_99, bdx_100, chx_101, rfl, ?_⟩
          show (r_92 = ansCount u pl stt wh) ∧ (∀ k : Int, 0 ≤ k → k < 32 → 0 ≤ bdx_100 k ∧ bdx_100 k ≤ 32)
          refine ⟨?_, hv.2.2⟩
          unfold ansCount
          rw [if_neg (by omega), if_neg (by omega), if_neg (by omega), if_neg (by omega), if_neg (by omega), if_neg (by omega), if_neg (by omega)]
          exact hv.1
        · refine y_tin C 108 9 dX5_count_32 ⟨by omega, by omega⟩ ⟨by omega, by omega⟩ (by omega) rfl (by decide) ?_
          refine y_aload_n C 0 dX5_count_108 rfl ?_
          refine y_get C fg_X5_12 0 dX5_count_109 rfl rfl ?_
          refine y_get C fg_X5_119 10 dX5_count_112 rfl rfl ?_
          refine hret _ _ _ _ dX5_count_115 ⟨per, win, cr, p, d, mm, sn, bd, ch, rfl, ?_⟩
          show (lot = ansCount u pl stt wh) ∧ (∀ k : Int, 0 ≤ k → k < 32 → 0 ≤ bd k ∧ bd k ≤ 32)
          refine ⟨?_, hbd⟩
          unfold ansCount
          rw [if_neg (by omega), if_neg (by omega), if_neg (by omega), if_pos (by omega)]
          exact hrel.L.1
        · refine y_tin C 116 10 dX5_count_32 ⟨by omega, by omega⟩ ⟨by omega, by omega⟩ (by omega) rfl (by decide) ?_
          refine y_aload_n C 0 dX5_count_116 rfl ?_
          refine y_get C fg_X5_12 0 dX5_count_117 rfl rfl ?_
          refine y_get C fg_X5_143 10 dX5_count_120 rfl rfl ?_
          refine hret _ _ _ _ dX5_count_123 ⟨per, win, cr, p, d, mm, sn, bd, ch, rfl, ?_⟩
          show (len = ansCount u pl stt wh) ∧ (∀ k : Int, 0 ≤ k → k < 32 → 0 ≤ bd k ∧ bd k ≤ 32)
          refine ⟨?_, hbd⟩
          unfold ansCount
          rw [if_neg (by omega), if_neg (by omega), if_neg (by omega), if_neg (by omega), if_pos (by omega)]
          exact hrel.T.1
        · refine y_tin C 124 11 dX5_count_32 ⟨by omega, by omega⟩ ⟨by omega, by omega⟩ (by omega) rfl (by decide) ?_
          refine y_aload_n C 0 dX5_count_124 rfl ?_
          refine y_get C fg_X5_29 0 dX5_count_125 rfl rfl ?_
          refine y_get C fg_X5_126 1 dX5_count_128 rfl rfl ?_
          refine hret _ _ _ _ dX5_count_131 ⟨per, win, cr, p, d, mm, sn, bd, ch, rfl, ?_⟩
          show (pl = ansCount u pl stt wh) ∧ (∀ k : Int, 0 ≤ k → k < 32 → 0 ≤ bd k ∧ bd k ≤ 32)
          refine ⟨?_, hbd⟩
          unfold ansCount
          rw [if_neg (by omega), if_neg (by omega), if_neg (by omega), if_neg (by omega), if_neg (by omega), if_pos (by omega)]
        · refine y_tin C 132 12 dX5_count_32 ⟨by omega, by omega⟩ ⟨by omega, by omega⟩ (by omega) rfl (by decide) ?_
          refine y_aload_n C 0 dX5_count_132 rfl ?_
          refine y_get C fg_X5_22 0 dX5_count_133 rfl rfl ?_
          refine y_get C fg_X5_203 2 dX5_count_136 rfl rfl ?_
          refine hret _ _ _ _ dX5_count_139 ⟨per, win, cr, p, d, mm, sn, bd, ch, rfl, ?_⟩
          show (stt = ansCount u pl stt wh) ∧ (∀ k : Int, 0 ≤ k → k < 32 → 0 ≤ bd k ∧ bd k ≤ 32)
          refine ⟨?_, hbd⟩
          unfold ansCount
          rw [if_neg (by omega), if_neg (by omega), if_neg (by omega), if_neg (by omega), if_neg (by omega), if_neg (by omega), if_pos (by omega)]
        · refine y_tout C 140 dX5_count_32 ⟨by omega, by omega⟩ (by omega) (by decide) ?_
          refine y_aload_n C 0 dX5_count_140 rfl ?_
          refine y_iload_n C 1 dX5_count_141 rfl ?_
          refine y_iconst C dX5_count_142 ?_
          refine y_isub C dX5_count_143 ?_
          refine y_mcalli C (m_X5_allPlacesOfKind (l := l) (D := D) (cA := cA) (cB := cB) (x := x) (ss := ss) (hh := hh) (pd := pd) (g := g) (vw := vw) (rk := rk) (has := has) (h := h) (a0 := a0) (a1 := a1) (a2 := a2) (a3 := a3) (a4 := a4) (a5 := a5) (per := per) (win := win) (cr := cr) (p := p) (d := d) (mm := mm) (sn := sn) (bd := bd) (ch := ch) (s := s) (b0 := b0) (b1 := b1) (b2 := b2) (b3 := b3) (b4 := b4) (len := len) (lot := lot) (P := P) (Q := Q) (M := M) (S := S) (kind := wh - 1) (by first | assumption | omega | exact ⟨by omega, by omega⟩) (by first | assumption | omega | exact ⟨by omega, by omega⟩) (by first | assumption | omega | exact ⟨by omega, by omega⟩)) lk_X5_206 [0, 3, 4, 5, 6, 7, 8, 9, 10, 11, 12, 13, 14] [1, 2] ⟨rfl, rfl, by decide, by decide, by decide⟩ (jb := 0) rfl rfl dX5_count_144 rfl rfl ⟨by exact Nat.le_of_ble_eq_true rfl, by exact Nat.le_of_ble_eq_true rfl, rfl, rfl, by exact Nat.le_of_ble_eq_true rfl, by exact Nat.le_of_ble_eq_true rfl, by exact Nat.le_of_ble_eq_true rfl⟩ (fun r_104 w_114 h_103 => ?_)
          obtain ⟨perx_105, winx_106, crx_107, px_108, dx_109, mmx_110, snx_111, bdx_112, chx_113, rfl, h_103⟩ := h_103
          refine ⟨[2, 0, 1, 3, 4, 5, 6, 7, 8, 9, 10, 11, 12, 13, 14], [cO x 5 [.ref s, .ref ss, .int (zI has), .ref hh, .ref pd, .ref h, .ref g, .ref vw, .ref rk], cO pd 2 [.ref pc, .ref pr, .int (zI pl)], cO hh 0 [.ref hk, .int (zI stt)], cO h 1 [.ref a0, .ref a1, .ref a2, .ref a3, .ref a4, .ref a5, .int (zI perx_105), .int (zI winx_106), .int (zI crx_107)], cI cA a0 32 px_108, cI cA a1 32 dx_109, cI cA a2 32 mmx_110, cI cA a3 32 snx_111, cI cA a4 32 bdx_112, cI cA a5 32 chx_113, cO s 4 [.ref b0, .ref b1, .ref b2, .ref b3, .ref b4, .int (zI len), .int (zI lot)], cI cA b0 256 P, cI cA b1 256 Q, cI cA b2 256 M, cI cA b3 6 S], ⟨rfl, by decide⟩, ?_⟩
          have hv := h_103
          refine hret _ _ _ _ dX5_count_147 ⟨perx_105, winx_106, crx_107, px_108, dx_109, mmx_110, snx_111, bdx_112, chx_113, rfl, ?_⟩
          show (r_104 = ansCount u pl stt wh) ∧ (∀ k : Int, 0 ≤ k → k < 32 → 0 ≤ bdx_112 k ∧ bdx_112 k ≤ 32)
          refine ⟨?_, hv.2.2⟩
          unfold ansCount
          rw [if_neg (by omega), if_neg (by omega), if_neg (by omega), if_neg (by omega), if_neg (by omega), if_neg (by omega), if_neg (by omega)]
          exact hv.1
      · refine y_aload_n C 0 dX5_count_18 rfl ?_
        refine y_get C fg_X5_12 0 dX5_count_19 rfl rfl ?_
        refine y_get C fg_X5_116 10 dX5_count_22 rfl rfl ?_
        refine y_iload_n C 1 dX5_count_25 rfl ?_
        refine y_bipush C dX5_count_26 (by decide +kernel) ?_
        refine y_isub C dX5_count_28 ?_
        refine y_iald C 14 0 dX5_count_29 rfl rfl ⟨by omega, by omega, by omega⟩ ?_
        refine hret _ _ _ _ dX5_count_30 ⟨per, win, cr, p, d, mm, sn, bd, ch, rfl, ?_⟩
        show ((S (wh - 13)) = ansCount u pl stt wh) ∧ (∀ k : Int, 0 ≤ k → k < 32 → 0 ≤ bd k ∧ bd k ≤ 32)
        refine ⟨?_, hbd⟩
        unfold ansCount
        rw [if_neg (by omega), if_pos (by omega)]
        obtain ⟨e0, e1, e2, e3, e4, e5⟩ := hRS.1
        rcases (show wh = 13 ∨ wh = 14 ∨ wh = 15 ∨ wh = 16 ∨ wh = 17 ∨ wh = 18 from by omega) with rfl | rfl | rfl | rfl | rfl | rfl
        exact e0
        exact e1
        exact e2
        exact e3
        exact e4
        exact e5
    · refine y_iconst C dX5_count_10 ?_
      refine hret _ _ _ _ dX5_count_11 ⟨per, win, cr, p, d, mm, sn, bd, ch, rfl, ?_⟩
      show ((-1) = ansCount u pl stt wh) ∧ (∀ k : Int, 0 ≤ k → k < 32 → 0 ≤ bd k ∧ bd k ≤ 32)
      refine ⟨?_, hbd⟩
      unfold ansCount
      rw [if_pos (by omega)]

set_option maxHeartbeats 4000000 in
set_option maxRecDepth 100000 in
theorem m_X5_alike {l : Launch} {D : va_G} {cA cB : ClassId} {x ss hh pd g vw rk : Nat} {has : Int} {h a0 a1 a2 a3 a4 a5 : Nat} {per win cr : Int} {p d mm sn bd ch : Int → Int} {s b0 b1 b2 b3 b4 : Nat} {len lot : Int} {u P Q M S T : Int → Int} {e0 e1 e2 e3 e4 e5 : Nat} {perg wing crg : Int} {pg dg mmg sng bdg chg : Int → Int} {row q : Int} (hzrow : zR row) (hzq : zR q) (hbd : ∀ k : Int, 0 ≤ k → k < 32 → 0 ≤ bd k ∧ bd k ≤ 32) (hbg : ∀ k : Int, 0 ≤ k → k < 32 → 0 ≤ bdg k ∧ bdg k ≤ 32) (hrel : Rel u S P Q M T len lot) : MI l yX5_alike cX5_alike 3 .int { frames := 5, cells := 0, slots := 0, locals := 111 } D (zT cA cB) [.ref x, .int (zI row), .int (zI q)] [cO x 5 [.ref s, .ref ss, .int (zI has), .ref hh, .ref pd, .ref h, .ref g, .ref vw, .ref rk], cO h 1 [.ref a0, .ref a1, .ref a2, .ref a3, .ref a4, .ref a5, .int (zI per), .int (zI win), .int (zI cr)], cI cA a0 32 p, cI cA a1 32 d, cI cA a2 32 mm, cI cA a3 32 sn, cI cA a4 32 bd, cI cA a5 32 ch, cO g 1 [.ref e0, .ref e1, .ref e2, .ref e3, .ref e4, .ref e5, .int (zI perg), .int (zI wing), .int (zI crg)], cI cA e0 32 pg, cI cA e1 32 dg, cI cA e2 32 mmg, cI cA e3 32 sng, cI cA e4 32 bdg, cI cA e5 32 chg, cO s 4 [.ref b0, .ref b1, .ref b2, .ref b3, .ref b4, .int (zI len), .int (zI lot)], cI cA b0 256 P, cI cA b1 256 Q, cI cA b2 256 M, cI cA b3 6 S] (fun r w => ∃ (perx : Int), ∃ (winx : Int), ∃ (crx : Int), ∃ (px : Int → Int), ∃ (dx : Int → Int), ∃ (mmx : Int → Int), ∃ (snx : Int → Int), ∃ (bdx : Int → Int), ∃ (chx : Int → Int), ∃ (pery : Int), ∃ (winy : Int), ∃ (cry : Int), ∃ (py : Int → Int), ∃ (dy : Int → Int), ∃ (mmy : Int → Int), ∃ (sny : Int → Int), ∃ (bdy : Int → Int), ∃ (chy : Int → Int), w = [cO x 5 [.ref s, .ref ss, .int (zI has), .ref hh, .ref pd, .ref h, .ref g, .ref vw, .ref rk], cO h 1 [.ref a0, .ref a1, .ref a2, .ref a3, .ref a4, .ref a5, .int (zI perx), .int (zI winx), .int (zI crx)], cI cA a0 32 px, cI cA a1 32 dx, cI cA a2 32 mmx, cI cA a3 32 snx, cI cA a4 32 bdx, cI cA a5 32 chx, cO g 1 [.ref e0, .ref e1, .ref e2, .ref e3, .ref e4, .ref e5, .int (zI pery), .int (zI winy), .int (zI cry)], cI cA e0 32 py, cI cA e1 32 dy, cI cA e2 32 mmy, cI cA e3 32 sny, cI cA e4 32 bdy, cI cA e5 32 chy, cO s 4 [.ref b0, .ref b1, .ref b2, .ref b3, .ref b4, .int (zI len), .int (zI lot)], cI cA b0 256 P, cI cA b1 256 Q, cI cA b2 256 M, cI cA b3 6 S] ∧ (r = ansAlike u row q) ∧ (∀ k : Int, 0 ≤ k → k < 32 → 0 ≤ bdx k ∧ bdx k ≤ 32) ∧ (∀ k : Int, 0 ≤ k → k < 32 → 0 ≤ bdy k ∧ bdy k ≤ 32)) := by
  refine MI.of RX5 ⟨rfl, by decide +kernel⟩ (Or.inl rfl) (Nat.le_of_ble_eq_true rfl) (fun h => by cases h) ?_
  intro K C hret
  change K 0 0 _ [(0, .ref x), (1, .int (zI row)), (2, .int (zI q))] 0 []
  have hRS := hrel.S
  have hRP := hrel.P
  have hRQ := hrel.Q
  have hRM := hrel.M
  have hu := hRS.2
  have hzrow1 := hzrow.1
  have hzrow2 := hzrow.2
  have hzq1 := hzq.1
  have hzq2 := hzq.2
  refine y_iload_n C 1 dX5_alike_0 rfl ?_
  refine y_pcalls C (m_X5_isRow (l := l) (D := D) (cA := cA) (cB := cB) (x := row) (by first | assumption | omega | exact ⟨by omega, by omega⟩)) lk_X5_50 [] [0, 1, 2, 3, 4, 5, 6, 7, 8, 9, 10, 11, 12, 13, 14, 15, 16, 17, 18, 19] [0, 1, 2, 3, 4, 5, 6, 7, 8, 9, 10, 11, 12, 13, 14, 15, 16, 17, 18, 19] ⟨rfl, rfl, by decide, by decide, by decide⟩ ⟨rfl, by decide⟩ dX5_alike_1 rfl rfl ⟨by exact Nat.le_of_ble_eq_true rfl, by exact Nat.le_of_ble_eq_true rfl, rfl, rfl, by exact Nat.le_of_ble_eq_true rfl, by exact Nat.le_of_ble_eq_true rfl, by exact Nat.le_of_ble_eq_true rfl⟩ (fun r_2 h_1 => ?_)
  refine y_if_eq C 14 dX5_alike_4 (by decide) ⟨by omega, by omega⟩ (fun c_3 => ?_) (fun c_3 => ?_)
  · refine y_iconst C dX5_alike_14 ?_
    refine hret _ _ _ _ dX5_alike_15 ⟨per, win, cr, p, d, mm, sn, bd, ch, perg, wing, crg, pg, dg, mmg, sng, bdg, chg, rfl, ?_⟩
    show ((-1) = ansAlike u row q) ∧ (∀ k : Int, 0 ≤ k → k < 32 → 0 ≤ bd k ∧ bd k ≤ 32) ∧ (∀ k : Int, 0 ≤ k → k < 32 → 0 ≤ bdg k ∧ bdg k ≤ 32)
    refine ⟨?_, hbd, hbg⟩
    unfold ansAlike
    rw [if_neg (by omega)]
  · refine y_iload_n C 2 dX5_alike_7 rfl ?_
    refine y_pcalls C (m_X5_isRow (l := l) (D := D) (cA := cA) (cB := cB) (x := q) (by first | assumption | omega | exact ⟨by omega, by omega⟩)) lk_X5_50 [] [0, 1, 2, 3, 4, 5, 6, 7, 8, 9, 10, 11, 12, 13, 14, 15, 16, 17, 18, 19] [0, 1, 2, 3, 4, 5, 6, 7, 8, 9, 10, 11, 12, 13, 14, 15, 16, 17, 18, 19] ⟨rfl, rfl, by decide, by decide, by decide⟩ ⟨rfl, by decide⟩ dX5_alike_8 rfl rfl ⟨by exact Nat.le_of_ble_eq_true rfl, by exact Nat.le_of_ble_eq_true rfl, rfl, rfl, by exact Nat.le_of_ble_eq_true rfl, by exact Nat.le_of_ble_eq_true rfl, by exact Nat.le_of_ble_eq_true rfl⟩ (fun r_5 h_4 => ?_)
    refine y_if_ne C 16 dX5_alike_11 (by decide) ⟨by omega, by omega⟩ (fun c_6 => ?_) (fun c_6 => ?_)
    · refine y_aload_n C 0 dX5_alike_16 rfl ?_
      refine y_get C fg_X5_36 0 dX5_alike_17 rfl rfl ?_
      refine y_aload_n C 0 dX5_alike_20 rfl ?_
      refine y_get C fg_X5_12 0 dX5_alike_21 rfl rfl ?_
      refine y_iload_n C 1 dX5_alike_24 rfl ?_
      refine y_mcallv C (m_X1_study (l := l) (D := D) (cA := cA) (cB := cB) (h := h) (a0 := a0) (a1 := a1) (a2 := a2) (a3 := a3) (a4 := a4) (a5 := a5) (per := per) (win := win) (cr := cr) (s := s) (b0 := b0) (b1 := b1) (b2 := b2) (b3 := b3) (b4 := b4) (len := len) (lot := lot) (p := p) (d := d) (mm := mm) (sn := sn) (bd := bd) (ch := ch) (P := P) (Q := Q) (M := M) (S := S) (row := row) (by first | assumption | omega | exact ⟨by omega, by omega⟩) (by first | assumption | omega | exact ⟨by omega, by omega⟩) (by first | assumption | omega | exact ⟨by omega, by omega⟩) (by first | assumption | omega | exact ⟨by omega, by omega⟩) (by first | assumption | omega | exact ⟨by omega, by omega⟩)) lk_X5_146 [1, 2, 3, 4, 5, 6, 7, 15, 16, 17, 18, 19] [0, 8, 9, 10, 11, 12, 13, 14] ⟨rfl, rfl, by decide, by decide, by decide⟩ (jb := 0) rfl rfl dX5_alike_25 rfl rfl ⟨by exact Nat.le_of_ble_eq_true rfl, by exact Nat.le_of_ble_eq_true rfl, rfl, rfl, by exact Nat.le_of_ble_eq_true rfl, by exact Nat.le_of_ble_eq_true rfl, by exact Nat.le_of_ble_eq_true rfl⟩ (fun w_15 h_7 => ?_)
      obtain ⟨p4_9, d4_10, mm4_11, sn4_12, bd4_13, ch4_14, rfl, h_7⟩ := h_7
      refine ⟨[0, 8, 9, 10, 11, 12, 13, 14, 1, 2, 3, 4, 5, 6, 7, 15, 16, 17, 18, 19], [cO x 5 [.ref s, .ref ss, .int (zI has), .ref hh, .ref pd, .ref h, .ref g, .ref vw, .ref rk], cO h 1 [.ref a0, .ref a1, .ref a2, .ref a3, .ref a4, .ref a5, .int (zI (u 0)), .int (zI (u 2)), .int (zI (u 3))], cI cA a0 32 p4_9, cI cA a1 32 d4_10, cI cA a2 32 mm4_11, cI cA a3 32 sn4_12, cI cA a4 32 bd4_13, cI cA a5 32 ch4_14, cO g 1 [.ref e0, .ref e1, .ref e2, .ref e3, .ref e4, .ref e5, .int (zI perg), .int (zI wing), .int (zI crg)], cI cA e0 32 pg, cI cA e1 32 dg, cI cA e2 32 mmg, cI cA e3 32 sng, cI cA e4 32 bdg, cI cA e5 32 chg, cO s 4 [.ref b0, .ref b1, .ref b2, .ref b3, .ref b4, .int (zI len), .int (zI lot)], cI cA b0 256 P, cI cA b1 256 Q, cI cA b2 256 M, cI cA b3 6 S], ⟨rfl, by decide⟩, ?_⟩
      obtain ⟨hp4, hd4, hm4, hs4, hb4, hc4⟩ := h_7
      have hp5 : ∀ k : Int, 0 ≤ k → k < 32 → 0 ≤ p4_9 k ∧ p4_9 k ≤ 4 := fun k h0 h1 => by rw [hp4 k h0 h1]; exact (zp_of hRP (by omega) h0 h1).2
      have hd5 : ∀ k : Int, 0 ≤ k → k < 32 → 0 ≤ d4_10 k ∧ d4_10 k ≤ 7 := fun k h0 h1 => by rw [hd4 k h0 h1]; exact (zd_of hRQ (by omega) h0 h1).2
      have hm5 : ∀ k : Int, 0 ≤ k → k < 32 → -4 ≤ mm4_11 k ∧ mm4_11 k ≤ 7 := fun k h0 h1 => by rw [hm4 k h0 h1]; exact (zk_of hRM (by omega) h0 h1).2
      have hs5 : ∀ k : Int, 0 ≤ k → k < 32 → -4 ≤ sn4_12 k ∧ sn4_12 k ≤ 4 := fun k h0 h1 => by rw [hs4 k h0 h1]; have := seeR_r u row k; omega
      have hb5 : ∀ k : Int, 0 ≤ k → k < 32 → 0 ≤ bd4_13 k ∧ bd4_13 k ≤ 32 := fun k h0 h1 => by rw [hb4 k h0 h1]; exact bndZ_r _ _ _
      have hpu : ∀ k : Int, 0 ≤ k → k < 32 → p4_9 k < u 0 := fun k h0 h1 => by have := hp5 k h0 h1; omega
      have hc5 : ∀ k : Int, 0 ≤ k → k < 32 → 0 ≤ ch4_14 k ∧ ch4_14 k ≤ 31 := fun k h0 h1 => by rw [hc4 k h0 h1]; have := chZ_r (per := u 0) (p := zp u row) (fun j a b => by rw [← hp4 j a b]; exact hpu j a b) ⟨h0, h1⟩; unfold chnR; omega
      refine y_aload_n C 0 dX5_alike_28 rfl ?_
      refine y_get C fg_X5_40 0 dX5_alike_29 rfl rfl ?_
      refine y_aload_n C 0 dX5_alike_32 rfl ?_
      refine y_get C fg_X5_12 0 dX5_alike_33 rfl rfl ?_
      refine y_iload_n C 2 dX5_alike_36 rfl ?_
      refine y_mcallv C (m_X1_study (l := l) (D := D) (cA := cA) (cB := cB) (h := g) (a0 := e0) (a1 := e1) (a2 := e2) (a3 := e3) (a4 := e4) (a5 := e5) (per := perg) (win := wing) (cr := crg) (s := s) (b0 := b0) (b1 := b1) (b2 := b2) (b3 := b3) (b4 := b4) (len := len) (lot := lot) (p := pg) (d := dg) (mm := mmg) (sn := sng) (bd := bdg) (ch := chg) (P := P) (Q := Q) (M := M) (S := S) (row := q) (by first | assumption | omega | exact ⟨by omega, by omega⟩) (by first | assumption | omega | exact ⟨by omega, by omega⟩) (by first | assumption | omega | exact ⟨by omega, by omega⟩) (by first | assumption | omega | exact ⟨by omega, by omega⟩) (by first | assumption | omega | exact ⟨by omega, by omega⟩)) lk_X5_146 [8, 9, 10, 11, 12, 13, 14, 15, 16, 17, 18, 19] [0, 1, 2, 3, 4, 5, 6, 7] ⟨rfl, rfl, by decide, by decide, by decide⟩ (jb := 0) rfl rfl dX5_alike_37 rfl rfl ⟨by exact Nat.le_of_ble_eq_true rfl, by exact Nat.le_of_ble_eq_true rfl, rfl, rfl, by exact Nat.le_of_ble_eq_true rfl, by exact Nat.le_of_ble_eq_true rfl, by exact Nat.le_of_ble_eq_true rfl⟩ (fun w_24 h_16 => ?_)
      obtain ⟨p4_18, d4_19, mm4_20, sn4_21, bd4_22, ch4_23, rfl, h_16⟩ := h_16
      refine ⟨[0, 1, 2, 3, 4, 5, 6, 7, 8, 9, 10, 11, 12, 13, 14, 15, 16, 17, 18, 19], [cO x 5 [.ref s, .ref ss, .int (zI has), .ref hh, .ref pd, .ref h, .ref g, .ref vw, .ref rk], cO h 1 [.ref a0, .ref a1, .ref a2, .ref a3, .ref a4, .ref a5, .int (zI (u 0)), .int (zI (u 2)), .int (zI (u 3))], cI cA a0 32 p4_9, cI cA a1 32 d4_10, cI cA a2 32 mm4_11, cI cA a3 32 sn4_12, cI cA a4 32 bd4_13, cI cA a5 32 ch4_14, cO g 1 [.ref e0, .ref e1, .ref e2, .ref e3, .ref e4, .ref e5, .int (zI (u 0)), .int (zI (u 2)), .int (zI (u 3))], cI cA e0 32 p4_18, cI cA e1 32 d4_19, cI cA e2 32 mm4_20, cI cA e3 32 sn4_21, cI cA e4 32 bd4_22, cI cA e5 32 ch4_23, cO s 4 [.ref b0, .ref b1, .ref b2, .ref b3, .ref b4, .int (zI len), .int (zI lot)], cI cA b0 256 P, cI cA b1 256 Q, cI cA b2 256 M, cI cA b3 6 S], ⟨rfl, by decide⟩, ?_⟩
      obtain ⟨ghp4, ghd4, ghm4, ghs4, ghb4, ghc4⟩ := h_16
      have ghp5 : ∀ k : Int, 0 ≤ k → k < 32 → 0 ≤ p4_18 k ∧ p4_18 k ≤ 4 := fun k h0 h1 => by rw [ghp4 k h0 h1]; exact (zp_of hRP (by omega) h0 h1).2
      have ghd5 : ∀ k : Int, 0 ≤ k → k < 32 → 0 ≤ d4_19 k ∧ d4_19 k ≤ 7 := fun k h0 h1 => by rw [ghd4 k h0 h1]; exact (zd_of hRQ (by omega) h0 h1).2
      have ghm5 : ∀ k : Int, 0 ≤ k → k < 32 → -4 ≤ mm4_20 k ∧ mm4_20 k ≤ 7 := fun k h0 h1 => by rw [ghm4 k h0 h1]; exact (zk_of hRM (by omega) h0 h1).2
      have ghs5 : ∀ k : Int, 0 ≤ k → k < 32 → -4 ≤ sn4_21 k ∧ sn4_21 k ≤ 4 := fun k h0 h1 => by rw [ghs4 k h0 h1]; have := seeR_r u q k; omega
      have ghb5 : ∀ k : Int, 0 ≤ k → k < 32 → 0 ≤ bd4_22 k ∧ bd4_22 k ≤ 32 := fun k h0 h1 => by rw [ghb4 k h0 h1]; exact bndZ_r _ _ _
      have ghpu : ∀ k : Int, 0 ≤ k → k < 32 → p4_18 k < u 0 := fun k h0 h1 => by have := ghp5 k h0 h1; omega
      have ghc5 : ∀ k : Int, 0 ≤ k → k < 32 → 0 ≤ ch4_23 k ∧ ch4_23 k ≤ 31 := fun k h0 h1 => by rw [ghc4 k h0 h1]; have := chZ_r (per := u 0) (p := zp u q) (fun j a b => by rw [← ghp4 j a b]; exact ghpu j a b) ⟨h0, h1⟩; unfold chnR; omega
      refine y_aload_n C 0 dX5_alike_40 rfl ?_
      refine y_get C fg_X5_36 0 dX5_alike_41 rfl rfl ?_
      refine y_aload_n C 0 dX5_alike_44 rfl ?_
      refine y_get C fg_X5_40 0 dX5_alike_45 rfl rfl ?_
      refine y_pcall C (m_X1_placesSeenAs (l := l) (D := D) (cA := cA) (cB := cB) (h := h) (a0 := a0) (a1 := a1) (a2 := a2) (a3 := a3) (a4 := a4) (a5 := a5) (per := u 0) (win := u 2) (cr := u 3) (g := g) (e0 := e0) (e1 := e1) (e2 := e2) (e3 := e3) (e4 := e4) (e5 := e5) (per2 := u 0) (win2 := u 2) (cr2 := u 3) (sn := sn4_12) (sm := sn4_21) (by first | assumption | omega | exact ⟨by omega, by omega⟩) (by first | assumption | omega | exact ⟨by omega, by omega⟩)) lk_X5_217 [1, 5, 8, 12] [0, 2, 3, 4, 6, 7, 9, 10, 11, 13, 14, 15, 16, 17, 18, 19] [0, 16, 1, 2, 3, 17, 4, 5, 18, 6, 7, 8, 19, 9, 10, 11, 12, 13, 14, 15] ⟨rfl, rfl, by decide, by decide, by decide⟩ ⟨rfl, by decide⟩ rfl rfl dX5_alike_48 rfl rfl ⟨by exact Nat.le_of_ble_eq_true rfl, by exact Nat.le_of_ble_eq_true rfl, rfl, rfl, by exact Nat.le_of_ble_eq_true rfl, by exact Nat.le_of_ble_eq_true rfl, by exact Nat.le_of_ble_eq_true rfl⟩ (fun r_26 h_25 => ?_)
      have hv := h_25
      refine hret _ _ _ _ dX5_alike_51 ⟨(u 0), (u 2), (u 3), p4_9, d4_10, mm4_11, sn4_12, bd4_13, ch4_14, (u 0), (u 2), (u 3), p4_18, d4_19, mm4_20, sn4_21, bd4_22, ch4_23, rfl, ?_⟩
      show (r_26 = ansAlike u row q) ∧ (∀ k : Int, 0 ≤ k → k < 32 → 0 ≤ bd4_13 k ∧ bd4_13 k ≤ 32) ∧ (∀ k : Int, 0 ≤ k → k < 32 → 0 ≤ bd4_22 k ∧ bd4_22 k ≤ 32)
      refine ⟨?_, hb5, ghb5⟩
      unfold ansAlike
      rw [if_pos (by omega), hv.1]
      exact zcnt_congr (fun k a b => by rw [hs4 k a b, ghs4 k a b])
    · refine y_iconst C dX5_alike_14 ?_
      refine hret _ _ _ _ dX5_alike_15 ⟨per, win, cr, p, d, mm, sn, bd, ch, perg, wing, crg, pg, dg, mmg, sng, bdg, chg, rfl, ?_⟩
      show ((-1) = ansAlike u row q) ∧ (∀ k : Int, 0 ≤ k → k < 32 → 0 ≤ bd k ∧ bd k ≤ 32) ∧ (∀ k : Int, 0 ≤ k → k < 32 → 0 ≤ bdg k ∧ bdg k ≤ 32)
      refine ⟨?_, hbd, hbg⟩
      unfold ansAlike
      rw [if_neg (by omega)]

set_option maxHeartbeats 4000000 in
set_option maxRecDepth 100000 in
theorem m_X5_ifPainted {l : Launch} {D : va_G} {cA cB : ClassId} {x ss hh pd g vw rk : Nat} {has : Int} {h a0 a1 a2 a3 a4 a5 : Nat} {per win cr : Int} {p d mm sn bd ch : Int → Int} {s b0 b1 b2 b3 b4 : Nat} {len lot : Int} {u P Q M S T : Int → Int} {e0 e1 e2 e3 e4 e5 : Nat} {perg wing crg : Int} {pg dg mmg sng bdg chg : Int → Int} {row col dot wh : Int} (hzrow : zR row) (hzcol : zR col) (hzdot : zR dot) (hzwh : zR wh) (hbd : ∀ k : Int, 0 ≤ k → k < 32 → 0 ≤ bd k ∧ bd k ≤ 32) (hbg : ∀ k : Int, 0 ≤ k → k < 32 → 0 ≤ bdg k ∧ bdg k ≤ 32) (hrel : Rel u S P Q M T len lot) : MI l yX5_ifPainted cX5_ifPainted 5 .int { frames := 5, cells := 0, slots := 0, locals := 111 } D (zT cA cB) [.ref x, .int (zI row), .int (zI col), .int (zI dot), .int (zI wh)] [cO x 5 [.ref s, .ref ss, .int (zI has), .ref hh, .ref pd, .ref h, .ref g, .ref vw, .ref rk], cO h 1 [.ref a0, .ref a1, .ref a2, .ref a3, .ref a4, .ref a5, .int (zI per), .int (zI win), .int (zI cr)], cI cA a0 32 p, cI cA a1 32 d, cI cA a2 32 mm, cI cA a3 32 sn, cI cA a4 32 bd, cI cA a5 32 ch, cO g 1 [.ref e0, .ref e1, .ref e2, .ref e3, .ref e4, .ref e5, .int (zI perg), .int (zI wing), .int (zI crg)], cI cA e0 32 pg, cI cA e1 32 dg, cI cA e2 32 mmg, cI cA e3 32 sng, cI cA e4 32 bdg, cI cA e5 32 chg, cO s 4 [.ref b0, .ref b1, .ref b2, .ref b3, .ref b4, .int (zI len), .int (zI lot)], cI cA b0 256 P, cI cA b1 256 Q, cI cA b2 256 M, cI cA b3 6 S] (fun r w => ∃ (perx : Int), ∃ (winx : Int), ∃ (crx : Int), ∃ (px : Int → Int), ∃ (dx : Int → Int), ∃ (mmx : Int → Int), ∃ (snx : Int → Int), ∃ (bdx : Int → Int), ∃ (chx : Int → Int), ∃ (pery : Int), ∃ (winy : Int), ∃ (cry : Int), ∃ (py : Int → Int), ∃ (dy : Int → Int), ∃ (mmy : Int → Int), ∃ (sny : Int → Int), ∃ (bdy : Int → Int), ∃ (chy : Int → Int), w = [cO x 5 [.ref s, .ref ss, .int (zI has), .ref hh, .ref pd, .ref h, .ref g, .ref vw, .ref rk], cO h 1 [.ref a0, .ref a1, .ref a2, .ref a3, .ref a4, .ref a5, .int (zI perx), .int (zI winx), .int (zI crx)], cI cA a0 32 px, cI cA a1 32 dx, cI cA a2 32 mmx, cI cA a3 32 snx, cI cA a4 32 bdx, cI cA a5 32 chx, cO g 1 [.ref e0, .ref e1, .ref e2, .ref e3, .ref e4, .ref e5, .int (zI pery), .int (zI winy), .int (zI cry)], cI cA e0 32 py, cI cA e1 32 dy, cI cA e2 32 mmy, cI cA e3 32 sny, cI cA e4 32 bdy, cI cA e5 32 chy, cO s 4 [.ref b0, .ref b1, .ref b2, .ref b3, .ref b4, .int (zI len), .int (zI lot)], cI cA b0 256 P, cI cA b1 256 Q, cI cA b2 256 M, cI cA b3 6 S] ∧ (r = ansIfP u row col dot wh) ∧ (∀ k : Int, 0 ≤ k → k < 32 → 0 ≤ bdx k ∧ bdx k ≤ 32) ∧ (∀ k : Int, 0 ≤ k → k < 32 → 0 ≤ bdy k ∧ bdy k ≤ 32)) := by
  refine MI.of RX5 ⟨rfl, by decide +kernel⟩ (Or.inl rfl) (Nat.le_of_ble_eq_true rfl) (fun h => by cases h) ?_
  intro K C hret
  change K 0 0 _ [(0, .ref x), (1, .int (zI row)), (2, .int (zI col)), (3, .int (zI dot)), (4, .int (zI wh))] 0 []
  have hRS := hrel.S
  have hRP := hrel.P
  have hRQ := hrel.Q
  have hRM := hrel.M
  have hu := hRS.2
  have hzrow1 := hzrow.1
  have hzrow2 := hzrow.2
  have hzcol1 := hzcol.1
  have hzcol2 := hzcol.2
  have hzdot1 := hzdot.1
  have hzdot2 := hzdot.2
  have hzwh1 := hzwh.1
  have hzwh2 := hzwh.2
  refine y_iload_n C 1 dX5_ifPainted_0 rfl ?_
  refine y_pcalls C (m_X5_isRow (l := l) (D := D) (cA := cA) (cB := cB) (x := row) (by first | assumption | omega | exact ⟨by omega, by omega⟩)) lk_X5_50 [] [0, 1, 2, 3, 4, 5, 6, 7, 8, 9, 10, 11, 12, 13, 14, 15, 16, 17, 18, 19] [0, 1, 2, 3, 4, 5, 6, 7, 8, 9, 10, 11, 12, 13, 14, 15, 16, 17, 18, 19] ⟨rfl, rfl, by decide, by decide, by decide⟩ ⟨rfl, by decide⟩ dX5_ifPainted_1 rfl rfl ⟨by exact Nat.le_of_ble_eq_true rfl, by exact Nat.le_of_ble_eq_true rfl, rfl, rfl, by exact Nat.le_of_ble_eq_true rfl, by exact Nat.le_of_ble_eq_true rfl, by exact Nat.le_of_ble_eq_true rfl⟩ (fun r_2 h_1 => ?_)
  refine y_if_eq C 21 dX5_ifPainted_4 (by decide) ⟨by omega, by omega⟩ (fun c_3 => ?_) (fun c_3 => ?_)
  · refine y_iconst C dX5_ifPainted_21 ?_
    refine hret _ _ _ _ dX5_ifPainted_22 ⟨per, win, cr, p, d, mm, sn, bd, ch, perg, wing, crg, pg, dg, mmg, sng, bdg, chg, rfl, ?_⟩
    show ((-1) = ansIfP u row col dot wh) ∧ (∀ k : Int, 0 ≤ k → k < 32 → 0 ≤ bd k ∧ bd k ≤ 32) ∧ (∀ k : Int, 0 ≤ k → k < 32 → 0 ≤ bdg k ∧ bdg k ≤ 32)
    refine ⟨?_, hbd, hbg⟩
    unfold ansIfP
    rw [if_neg (by omega)]
  · refine y_iload_n C 2 dX5_ifPainted_7 rfl ?_
    refine y_pcalls C (m_X5_isColumn (l := l) (D := D) (cA := cA) (cB := cB) (x := col) (by first | assumption | omega | exact ⟨by omega, by omega⟩)) lk_X5_54 [] [0, 1, 2, 3, 4, 5, 6, 7, 8, 9, 10, 11, 12, 13, 14, 15, 16, 17, 18, 19] [0, 1, 2, 3, 4, 5, 6, 7, 8, 9, 10, 11, 12, 13, 14, 15, 16, 17, 18, 19] ⟨rfl, rfl, by decide, by decide, by decide⟩ ⟨rfl, by decide⟩ dX5_ifPainted_8 rfl rfl ⟨by exact Nat.le_of_ble_eq_true rfl, by exact Nat.le_of_ble_eq_true rfl, rfl, rfl, by exact Nat.le_of_ble_eq_true rfl, by exact Nat.le_of_ble_eq_true rfl, by exact Nat.le_of_ble_eq_true rfl⟩ (fun r_5 h_4 => ?_)
    refine y_if_eq C 21 dX5_ifPainted_11 (by decide) ⟨by omega, by omega⟩ (fun c_6 => ?_) (fun c_6 => ?_)
    · refine y_iconst C dX5_ifPainted_21 ?_
      refine hret _ _ _ _ dX5_ifPainted_22 ⟨per, win, cr, p, d, mm, sn, bd, ch, perg, wing, crg, pg, dg, mmg, sng, bdg, chg, rfl, ?_⟩
      show ((-1) = ansIfP u row col dot wh) ∧ (∀ k : Int, 0 ≤ k → k < 32 → 0 ≤ bd k ∧ bd k ≤ 32) ∧ (∀ k : Int, 0 ≤ k → k < 32 → 0 ≤ bdg k ∧ bdg k ≤ 32)
      refine ⟨?_, hbd, hbg⟩
      unfold ansIfP
      rw [if_neg (by omega)]
    · refine y_iload_n C 3 dX5_ifPainted_14 rfl ?_
      refine y_pcalls C (m_X5_isDot (l := l) (D := D) (cA := cA) (cB := cB) (x := dot) (by first | assumption | omega | exact ⟨by omega, by omega⟩)) lk_X5_101 [] [0, 1, 2, 3, 4, 5, 6, 7, 8, 9, 10, 11, 12, 13, 14, 15, 16, 17, 18, 19] [0, 1, 2, 3, 4, 5, 6, 7, 8, 9, 10, 11, 12, 13, 14, 15, 16, 17, 18, 19] ⟨rfl, rfl, by decide, by decide, by decide⟩ ⟨rfl, by decide⟩ dX5_ifPainted_15 rfl rfl ⟨by exact Nat.le_of_ble_eq_true rfl, by exact Nat.le_of_ble_eq_true rfl, rfl, rfl, by exact Nat.le_of_ble_eq_true rfl, by exact Nat.le_of_ble_eq_true rfl, by exact Nat.le_of_ble_eq_true rfl⟩ (fun r_8 h_7 => ?_)
      refine y_if_ne C 23 dX5_ifPainted_18 (by decide) ⟨by omega, by omega⟩ (fun c_9 => ?_) (fun c_9 => ?_)
      · refine y_aload_n C 0 dX5_ifPainted_23 rfl ?_
        refine y_get C fg_X5_36 0 dX5_ifPainted_24 rfl rfl ?_
        refine y_aload_n C 0 dX5_ifPainted_27 rfl ?_
        refine y_get C fg_X5_12 0 dX5_ifPainted_28 rfl rfl ?_
        refine y_iload_n C 1 dX5_ifPainted_31 rfl ?_
        refine y_mcallv C (m_X1_study (l := l) (D := D) (cA := cA) (cB := cB) (h := h) (a0 := a0) (a1 := a1) (a2 := a2) (a3 := a3) (a4 := a4) (a5 := a5) (per := per) (win := win) (cr := cr) (s := s) (b0 := b0) (b1 := b1) (b2 := b2) (b3 := b3) (b4 := b4) (len := len) (lot := lot) (p := p) (d := d) (mm := mm) (sn := sn) (bd := bd) (ch := ch) (P := P) (Q := Q) (M := M) (S := S) (row := row) (by first | assumption | omega | exact ⟨by omega, by omega⟩) (by first | assumption | omega | exact ⟨by omega, by omega⟩) (by first | assumption | omega | exact ⟨by omega, by omega⟩) (by first | assumption | omega | exact ⟨by omega, by omega⟩) (by first | assumption | omega | exact ⟨by omega, by omega⟩)) lk_X5_146 [1, 2, 3, 4, 5, 6, 7, 15, 16, 17, 18, 19] [0, 8, 9, 10, 11, 12, 13, 14] ⟨rfl, rfl, by decide, by decide, by decide⟩ (jb := 0) rfl rfl dX5_ifPainted_32 rfl rfl ⟨by exact Nat.le_of_ble_eq_true rfl, by exact Nat.le_of_ble_eq_true rfl, rfl, rfl, by exact Nat.le_of_ble_eq_true rfl, by exact Nat.le_of_ble_eq_true rfl, by exact Nat.le_of_ble_eq_true rfl⟩ (fun w_18 h_10 => ?_)
        obtain ⟨p4_12, d4_13, mm4_14, sn4_15, bd4_16, ch4_17, rfl, h_10⟩ := h_10
        refine ⟨[0, 8, 9, 10, 11, 12, 13, 14, 1, 2, 3, 4, 5, 6, 7, 15, 16, 17, 18, 19], [cO x 5 [.ref s, .ref ss, .int (zI has), .ref hh, .ref pd, .ref h, .ref g, .ref vw, .ref rk], cO h 1 [.ref a0, .ref a1, .ref a2, .ref a3, .ref a4, .ref a5, .int (zI (u 0)), .int (zI (u 2)), .int (zI (u 3))], cI cA a0 32 p4_12, cI cA a1 32 d4_13, cI cA a2 32 mm4_14, cI cA a3 32 sn4_15, cI cA a4 32 bd4_16, cI cA a5 32 ch4_17, cO g 1 [.ref e0, .ref e1, .ref e2, .ref e3, .ref e4, .ref e5, .int (zI perg), .int (zI wing), .int (zI crg)], cI cA e0 32 pg, cI cA e1 32 dg, cI cA e2 32 mmg, cI cA e3 32 sng, cI cA e4 32 bdg, cI cA e5 32 chg, cO s 4 [.ref b0, .ref b1, .ref b2, .ref b3, .ref b4, .int (zI len), .int (zI lot)], cI cA b0 256 P, cI cA b1 256 Q, cI cA b2 256 M, cI cA b3 6 S], ⟨rfl, by decide⟩, ?_⟩
        obtain ⟨hp4, hd4, hm4, hs4, hb4, hc4⟩ := h_10
        have hp5 : ∀ k : Int, 0 ≤ k → k < 32 → 0 ≤ p4_12 k ∧ p4_12 k ≤ 4 := fun k h0 h1 => by rw [hp4 k h0 h1]; exact (zp_of hRP (by omega) h0 h1).2
        have hd5 : ∀ k : Int, 0 ≤ k → k < 32 → 0 ≤ d4_13 k ∧ d4_13 k ≤ 7 := fun k h0 h1 => by rw [hd4 k h0 h1]; exact (zd_of hRQ (by omega) h0 h1).2
        have hm5 : ∀ k : Int, 0 ≤ k → k < 32 → -4 ≤ mm4_14 k ∧ mm4_14 k ≤ 7 := fun k h0 h1 => by rw [hm4 k h0 h1]; exact (zk_of hRM (by omega) h0 h1).2
        have hs5 : ∀ k : Int, 0 ≤ k → k < 32 → -4 ≤ sn4_15 k ∧ sn4_15 k ≤ 4 := fun k h0 h1 => by rw [hs4 k h0 h1]; have := seeR_r u row k; omega
        have hb5 : ∀ k : Int, 0 ≤ k → k < 32 → 0 ≤ bd4_16 k ∧ bd4_16 k ≤ 32 := fun k h0 h1 => by rw [hb4 k h0 h1]; exact bndZ_r _ _ _
        have hpu : ∀ k : Int, 0 ≤ k → k < 32 → p4_12 k < u 0 := fun k h0 h1 => by have := hp5 k h0 h1; omega
        have hc5 : ∀ k : Int, 0 ≤ k → k < 32 → 0 ≤ ch4_17 k ∧ ch4_17 k ≤ 31 := fun k h0 h1 => by rw [hc4 k h0 h1]; have := chZ_r (per := u 0) (p := zp u row) (fun j a b => by rw [← hp4 j a b]; exact hpu j a b) ⟨h0, h1⟩; unfold chnR; omega
        refine y_aload_n C 0 dX5_ifPainted_35 rfl ?_
        refine y_get C fg_X5_40 0 dX5_ifPainted_36 rfl rfl ?_
        refine y_aload_n C 0 dX5_ifPainted_39 rfl ?_
        refine y_get C fg_X5_12 0 dX5_ifPainted_40 rfl rfl ?_
        refine y_iload_n C 1 dX5_ifPainted_43 rfl ?_
        refine y_mcallv C (m_X1_takeRow (l := l) (D := D) (cA := cA) (cB := cB) (h := g) (a0 := e0) (a1 := e1) (a2 := e2) (a3 := e3) (a4 := e4) (a5 := e5) (per := perg) (win := wing) (cr := crg) (s := s) (b0 := b0) (b1 := b1) (b2 := b2) (b3 := b3) (b4 := b4) (len := len) (lot := lot) (p := pg) (d := dg) (mm := mmg) (P := P) (Q := Q) (M := M) (S := S) (row := row) (by first | assumption | omega | exact ⟨by omega, by omega⟩) (by first | assumption | omega | exact ⟨by omega, by omega⟩) (by first | assumption | omega | exact ⟨by omega, by omega⟩) (by first | assumption | omega | exact ⟨by omega, by omega⟩) (by first | assumption | omega | exact ⟨by omega, by omega⟩)) lk_X5_72 [8, 9, 10, 11, 15, 16, 17, 18, 19] [0, 1, 2, 3, 4, 5, 6, 7, 12, 13, 14] ⟨rfl, rfl, by decide, by decide, by decide⟩ (jb := 0) rfl rfl dX5_ifPainted_44 rfl rfl ⟨by exact Nat.le_of_ble_eq_true rfl, by exact Nat.le_of_ble_eq_true rfl, rfl, rfl, by exact Nat.le_of_ble_eq_true rfl, by exact Nat.le_of_ble_eq_true rfl, by exact Nat.le_of_ble_eq_true rfl⟩ (fun w_24 h_19 => ?_)
        obtain ⟨p2_21, d2_22, mm2_23, rfl, h_19⟩ := h_19
        refine ⟨[0, 1, 2, 3, 4, 5, 6, 7, 11, 12, 13, 14, 8, 9, 10, 15, 16, 17, 18, 19], [cO x 5 [.ref s, .ref ss, .int (zI has), .ref hh, .ref pd, .ref h, .ref g, .ref vw, .ref rk], cO h 1 [.ref a0, .ref a1, .ref a2, .ref a3, .ref a4, .ref a5, .int (zI (u 0)), .int (zI (u 2)), .int (zI (u 3))], cI cA a0 32 p4_12, cI cA a1 32 d4_13, cI cA a2 32 mm4_14, cI cA a3 32 sn4_15, cI cA a4 32 bd4_16, cI cA a5 32 ch4_17, cO g 1 [.ref e0, .ref e1, .ref e2, .ref e3, .ref e4, .ref e5, .int (zI (u 0)), .int (zI (u 2)), .int (zI (u 3))], cI cA e0 32 p2_21, cI cA e1 32 d2_22, cI cA e2 32 mm2_23, cI cA e3 32 sng, cI cA e4 32 bdg, cI cA e5 32 chg, cO s 4 [.ref b0, .ref b1, .ref b2, .ref b3, .ref b4, .int (zI len), .int (zI lot)], cI cA b0 256 P, cI cA b1 256 Q, cI cA b2 256 M, cI cA b3 6 S], ⟨rfl, by decide⟩, ?_⟩
        obtain ⟨ghp4, ghd4, ghm4⟩ := h_19
        have ghp5 : ∀ k : Int, 0 ≤ k → k < 32 → 0 ≤ p2_21 k ∧ p2_21 k ≤ 4 := fun k h0 h1 => by rw [ghp4 k h0 h1]; exact (zp_of hRP (by omega) h0 h1).2
        have ghd5 : ∀ k : Int, 0 ≤ k → k < 32 → 0 ≤ d2_22 k ∧ d2_22 k ≤ 7 := fun k h0 h1 => by rw [ghd4 k h0 h1]; exact (zd_of hRQ (by omega) h0 h1).2
        have ghm5 : ∀ k : Int, 0 ≤ k → k < 32 → -4 ≤ mm2_23 k ∧ mm2_23 k ≤ 7 := fun k h0 h1 => by rw [ghm4 k h0 h1]; exact (zk_of hRM (by omega) h0 h1).2
        have ghpu : ∀ k : Int, 0 ≤ k → k < 32 → p2_21 k < u 0 := fun k h0 h1 => by have := ghp5 k h0 h1; omega
        refine y_aload_n C 0 dX5_ifPainted_47 rfl ?_
        refine y_get C fg_X5_40 0 dX5_ifPainted_48 rfl rfl ?_
        refine y_get C fg_X5_149 8 dX5_ifPainted_51 rfl rfl ?_
        refine y_iload_n C 2 dX5_ifPainted_54 rfl ?_
        refine y_iload_n C 3 dX5_ifPainted_55 rfl ?_
        refine y_iast C 10 0 [cO x 5 [.ref s, .ref ss, .int (zI has), .ref hh, .ref pd, .ref h, .ref g, .ref vw, .ref rk], cO h 1 [.ref a0, .ref a1, .ref a2, .ref a3, .ref a4, .ref a5, .int (zI (u 0)), .int (zI (u 2)), .int (zI (u 3))], cI cA a0 32 p4_12, cI cA a1 32 d4_13, cI cA a2 32 mm4_14, cI cA a3 32 sn4_15, cI cA a4 32 bd4_16, cI cA a5 32 ch4_17, cO g 1 [.ref e0, .ref e1, .ref e2, .ref e3, .ref e4, .ref e5, .int (zI (u 0)), .int (zI (u 2)), .int (zI (u 3))], cI cA e0 32 p2_21, cI cA e1 32 (zU d2_22 col dot), cI cA e2 32 mm2_23, cI cA e3 32 sng, cI cA e4 32 bdg, cI cA e5 32 chg, cO s 4 [.ref b0, .ref b1, .ref b2, .ref b3, .ref b4, .int (zI len), .int (zI lot)], cI cA b0 256 P, cI cA b1 256 Q, cI cA b2 256 M, cI cA b3 6 S] dX5_ifPainted_56 rfl rfl ⟨by omega, by omega, by omega⟩ rfl ?_
        refine y_aload_n C 0 dX5_ifPainted_57 rfl ?_
        refine y_get C fg_X5_40 0 dX5_ifPainted_58 rfl rfl ?_
        have hdz : ∀ k : Int, 0 ≤ k → k < 32 → 0 ≤ (zU d2_22 col dot) k ∧ (zU d2_22 col dot) k ≤ 7 := fun k a b => by unfold zU; split; omega; exact ghd5 k a b
        refine y_mcallv C (m_X1_watch (l := l) (D := D) (cA := cA) (cB := cB) (h := g) (a0 := e0) (a1 := e1) (a2 := e2) (a3 := e3) (a4 := e4) (a5 := e5) (per := u 0) (win := u 2) (cr := u 3) (d := zU d2_22 col dot) (sn := sng) (by first | assumption | omega | exact ⟨by omega, by omega⟩) (by first | assumption | omega | exact ⟨by omega, by omega⟩) (by first | assumption | omega | exact ⟨by omega, by omega⟩) (by first | assumption | omega | exact ⟨by omega, by omega⟩)) lk_X5_214 [8, 10, 12] [0, 1, 2, 3, 4, 5, 6, 7, 9, 11, 13, 14, 15, 16, 17, 18, 19] ⟨rfl, rfl, by decide, by decide, by decide⟩ (jb := 0) rfl rfl dX5_ifPainted_61 rfl rfl ⟨by exact Nat.le_of_ble_eq_true rfl, by exact Nat.le_of_ble_eq_true rfl, rfl, rfl, by exact Nat.le_of_ble_eq_true rfl, by exact Nat.le_of_ble_eq_true rfl, by exact Nat.le_of_ble_eq_true rfl⟩ (fun w_28 h_25 => ?_)
        obtain ⟨sn2_27, rfl, h_25⟩ := h_25
        refine ⟨[0, 1, 2, 3, 4, 5, 6, 7, 17, 8, 18, 9, 19, 10, 11, 12, 13, 14, 15, 16], [cO x 5 [.ref s, .ref ss, .int (zI has), .ref hh, .ref pd, .ref h, .ref g, .ref vw, .ref rk], cO h 1 [.ref a0, .ref a1, .ref a2, .ref a3, .ref a4, .ref a5, .int (zI (u 0)), .int (zI (u 2)), .int (zI (u 3))], cI cA a0 32 p4_12, cI cA a1 32 d4_13, cI cA a2 32 mm4_14, cI cA a3 32 sn4_15, cI cA a4 32 bd4_16, cI cA a5 32 ch4_17, cO g 1 [.ref e0, .ref e1, .ref e2, .ref e3, .ref e4, .ref e5, .int (zI (u 0)), .int (zI (u 2)), .int (zI (u 3))], cI cA e0 32 p2_21, cI cA e1 32 (zU d2_22 col dot), cI cA e2 32 mm2_23, cI cA e3 32 sn2_27, cI cA e4 32 bdg, cI cA e5 32 chg, cO s 4 [.ref b0, .ref b1, .ref b2, .ref b3, .ref b4, .int (zI len), .int (zI lot)], cI cA b0 256 P, cI cA b1 256 Q, cI cA b2 256 M, cI cA b3 6 S], ⟨rfl, by decide⟩, ?_⟩
        have hw : ∀ k : Int, 0 ≤ k → k < 32 → sn2_27 k = seeU u row col dot k := fun k a b => ((h_25) k a b).trans (seeZ_congr (zU_congr ghd4) hu.1.1)
        have hw5 : ∀ k : Int, 0 ≤ k → k < 32 → -4 ≤ sn2_27 k ∧ sn2_27 k ≤ 4 := fun k a b => by rw [hw k a b]; have := seeZ_r (u 0) (u 2) (u 3) (zU (zd u row) col dot) k; unfold seeU; omega
        refine y_iload C 4 dX5_ifPainted_64 rfl ?_
        rcases (show wh = 0 ∨ wh = 1 ∨ wh = 2 ∨ (wh < 0 ∨ 2 < wh) from by omega) with s_29 | s_29 | s_29 | s_29
        · refine y_tin C 92 0 dX5_ifPainted_66 ⟨by omega, by omega⟩ ⟨by omega, by omega⟩ (by omega) rfl (by decide) ?_
          refine y_bipush C dX5_ifPainted_92 (by decide +kernel) ?_
          refine y_aload_n C 0 dX5_ifPainted_94 rfl ?_
          refine y_get C fg_X5_36 0 dX5_ifPainted_95 rfl rfl ?_
          refine y_aload_n C 0 dX5_ifPainted_98 rfl ?_
          refine y_get C fg_X5_40 0 dX5_ifPainted_99 rfl rfl ?_
          refine y_pcall C (m_X1_placesSeenAs (l := l) (D := D) (cA := cA) (cB := cB) (h := h) (a0 := a0) (a1 := a1) (a2 := a2) (a3 := a3) (a4 := a4) (a5 := a5) (per := u 0) (win := u 2) (cr := u 3) (g := g) (e0 := e0) (e1 := e1) (e2 := e2) (e3 := e3) (e4 := e4) (e5 := e5) (per2 := u 0) (win2 := u 2) (cr2 := u 3) (sn := sn4_15) (sm := sn2_27) (by first | assumption | omega | exact ⟨by omega, by omega⟩) (by first | assumption | omega | exact ⟨by omega, by omega⟩)) lk_X5_217 [1, 5, 8, 12] [0, 2, 3, 4, 6, 7, 9, 10, 11, 13, 14, 15, 16, 17, 18, 19] [0, 16, 1, 2, 3, 17, 4, 5, 18, 6, 7, 8, 19, 9, 10, 11, 12, 13, 14, 15] ⟨rfl, rfl, by decide, by decide, by decide⟩ ⟨rfl, by decide⟩ rfl rfl dX5_ifPainted_102 rfl rfl ⟨by exact Nat.le_of_ble_eq_true rfl, by exact Nat.le_of_ble_eq_true rfl, rfl, rfl, by exact Nat.le_of_ble_eq_true rfl, by exact Nat.le_of_ble_eq_true rfl, by exact Nat.le_of_ble_eq_true rfl⟩ (fun r_31 h_30 => ?_)
          have hv := h_30
          refine y_isub C dX5_ifPainted_105 ?_
          refine hret _ _ _ _ dX5_ifPainted_106 ⟨(u 0), (u 2), (u 3), p4_12, d4_13, mm4_14, sn4_15, bd4_16, ch4_17, (u 0), (u 2), (u 3), p2_21, (zU d2_22 col dot), mm2_23, sn2_27, bdg, chg, rfl, ?_⟩
          show ((32 - r_31) = ansIfP u row col dot wh) ∧ (∀ k : Int, 0 ≤ k → k < 32 → 0 ≤ bd4_16 k ∧ bd4_16 k ≤ 32) ∧ (∀ k : Int, 0 ≤ k → k < 32 → 0 ≤ bdg k ∧ bdg k ≤ 32)
          refine ⟨?_, hb5, hbg⟩
          unfold ansIfP ifpZ
          rw [if_pos (by omega), if_pos (by omega), hv.1]
          congr 1
          exact zcnt_congr (fun k a b => by rw [hs4 k a b, hw k a b])
        · refine y_tin C 107 1 dX5_ifPainted_66 ⟨by omega, by omega⟩ ⟨by omega, by omega⟩ (by omega) rfl (by decide) ?_
          refine y_aload_n C 0 dX5_ifPainted_107 rfl ?_
          refine y_get C fg_X5_40 0 dX5_ifPainted_108 rfl rfl ?_
          refine y_iconst C dX5_ifPainted_111 ?_
          refine y_pcall C (m_X1_placesOfKind (l := l) (D := D) (cA := cA) (cB := cB) (h := g) (a0 := e0) (a1 := e1) (a2 := e2) (a3 := e3) (a4 := e4) (a5 := e5) (per := u 0) (win := u 2) (cr := u 3) (p := p2_21) (d := zU d2_22 col dot) (mm := mm2_23) (sn := sn2_27) (bd := bdg) (kind := 4) (by first | assumption | omega | exact ⟨by omega, by omega⟩) (by first | assumption | omega | exact ⟨by omega, by omega⟩) (by first | assumption | omega | exact ⟨by omega, by omega⟩) (by first | assumption | omega | exact ⟨by omega, by omega⟩) (by first | assumption | omega | exact ⟨by omega, by omega⟩) (by first | assumption | omega | exact ⟨by omega, by omega⟩) (by first | assumption | omega | exact ⟨by omega, by omega⟩)) lk_X5_179 [8, 9, 10, 11, 12, 13] [0, 1, 2, 3, 4, 5, 6, 7, 14, 15, 16, 17, 18, 19] [0, 1, 2, 3, 4, 5, 6, 7, 14, 15, 16, 17, 18, 19, 8, 9, 10, 11, 12, 13] ⟨rfl, rfl, by decide, by decide, by decide⟩ ⟨rfl, by decide⟩ rfl rfl dX5_ifPainted_112 rfl rfl ⟨by exact Nat.le_of_ble_eq_true rfl, by exact Nat.le_of_ble_eq_true rfl, rfl, rfl, by exact Nat.le_of_ble_eq_true rfl, by exact Nat.le_of_ble_eq_true rfl, by exact Nat.le_of_ble_eq_true rfl⟩ (fun r_33 h_32 => ?_)
          have hv := h_32
          refine hret _ _ _ _ dX5_ifPainted_115 ⟨(u 0), (u 2), (u 3), p4_12, d4_13, mm4_14, sn4_15, bd4_16, ch4_17, (u 0), (u 2), (u 3), p2_21, (zU d2_22 col dot), mm2_23, sn2_27, bdg, chg, rfl, ?_⟩
          show (r_33 = ansIfP u row col dot wh) ∧ (∀ k : Int, 0 ≤ k → k < 32 → 0 ≤ bd4_16 k ∧ bd4_16 k ≤ 32) ∧ (∀ k : Int, 0 ≤ k → k < 32 → 0 ≤ bdg k ∧ bdg k ≤ 32)
          refine ⟨?_, hb5, hbg⟩
          unfold ansIfP ifpZ
          rw [if_pos (by omega), if_neg (by omega), if_pos (by omega), hv.1, knd4]
          exact zcnt_congr (fun k a b => by rw [hw k a b, ghp4 k a b])
        · refine y_tin C 116 2 dX5_ifPainted_66 ⟨by omega, by omega⟩ ⟨by omega, by omega⟩ (by omega) rfl (by decide) ?_
          refine y_aload_n C 0 dX5_ifPainted_116 rfl ?_
          refine y_get C fg_X5_36 0 dX5_ifPainted_117 rfl rfl ?_
          refine y_aload_n C 0 dX5_ifPainted_120 rfl ?_
          refine y_get C fg_X5_40 0 dX5_ifPainted_121 rfl rfl ?_
          refine y_iload_n C 2 dX5_ifPainted_124 rfl ?_
          refine y_pcall C (m_X1_farthestSeenOtherwise (l := l) (D := D) (cA := cA) (cB := cB) (h := h) (a0 := a0) (a1 := a1) (a2 := a2) (a3 := a3) (a4 := a4) (a5 := a5) (per := u 0) (win := u 2) (cr := u 3) (g := g) (e0 := e0) (e1 := e1) (e2 := e2) (e3 := e3) (e4 := e4) (e5 := e5) (per2 := u 0) (win2 := u 2) (cr2 := u 3) (sn := sn4_15) (sm := sn2_27) (a := col) (by first | assumption | omega | exact ⟨by omega, by omega⟩) (by first | assumption | omega | exact ⟨by omega, by omega⟩) (by first | assumption | omega | exact ⟨by omega, by omega⟩)) lk_X5_221 [1, 5, 8, 12] [0, 2, 3, 4, 6, 7, 9, 10, 11, 13, 14, 15, 16, 17, 18, 19] [0, 16, 1, 2, 3, 17, 4, 5, 18, 6, 7, 8, 19, 9, 10, 11, 12, 13, 14, 15] ⟨rfl, rfl, by decide, by decide, by decide⟩ ⟨rfl, by decide⟩ rfl rfl dX5_ifPainted_125 rfl rfl ⟨by exact Nat.le_of_ble_eq_true rfl, by exact Nat.le_of_ble_eq_true rfl, rfl, rfl, by exact Nat.le_of_ble_eq_true rfl, by exact Nat.le_of_ble_eq_true rfl, by exact Nat.le_of_ble_eq_true rfl⟩ (fun r_35 h_34 => ?_)
          have hv := h_34
          refine hret _ _ _ _ dX5_ifPainted_128 ⟨(u 0), (u 2), (u 3), p4_12, d4_13, mm4_14, sn4_15, bd4_16, ch4_17, (u 0), (u 2), (u 3), p2_21, (zU d2_22 col dot), mm2_23, sn2_27, bdg, chg, rfl, ?_⟩
          show (r_35 = ansIfP u row col dot wh) ∧ (∀ k : Int, 0 ≤ k → k < 32 → 0 ≤ bd4_16 k ∧ bd4_16 k ≤ 32) ∧ (∀ k : Int, 0 ≤ k → k < 32 → 0 ≤ bdg k ∧ bdg k ≤ 32)
          refine ⟨?_, hb5, hbg⟩
          unfold ansIfP ifpZ
          rw [if_pos (by omega), if_neg (by omega), if_neg (by omega), hv.1]
          exact farZ_congr (fun k a b => ⟨hs4 k a b, hw k a b⟩)
        · refine y_tout C 129 dX5_ifPainted_66 ⟨by omega, by omega⟩ (by omega) (by decide) ?_
          refine y_iconst C dX5_ifPainted_129 ?_
          refine hret _ _ _ _ dX5_ifPainted_130 ⟨(u 0), (u 2), (u 3), p4_12, d4_13, mm4_14, sn4_15, bd4_16, ch4_17, (u 0), (u 2), (u 3), p2_21, (zU d2_22 col dot), mm2_23, sn2_27, bdg, chg, rfl, ?_⟩
          show ((-1) = ansIfP u row col dot wh) ∧ (∀ k : Int, 0 ≤ k → k < 32 → 0 ≤ bd4_16 k ∧ bd4_16 k ≤ 32) ∧ (∀ k : Int, 0 ≤ k → k < 32 → 0 ≤ bdg k ∧ bdg k ≤ 32)
          refine ⟨?_, hb5, hbg⟩
          unfold ansIfP
          rw [if_neg (by omega)]
      · refine y_iconst C dX5_ifPainted_21 ?_
        refine hret _ _ _ _ dX5_ifPainted_22 ⟨per, win, cr, p, d, mm, sn, bd, ch, perg, wing, crg, pg, dg, mmg, sng, bdg, chg, rfl, ?_⟩
        show ((-1) = ansIfP u row col dot wh) ∧ (∀ k : Int, 0 ≤ k → k < 32 → 0 ≤ bd k ∧ bd k ≤ 32) ∧ (∀ k : Int, 0 ≤ k → k < 32 → 0 ≤ bdg k ∧ bdg k ≤ 32)
        refine ⟨?_, hbd, hbg⟩
        unfold ansIfP
        rw [if_neg (by omega)]

set_option maxHeartbeats 4000000 in
set_option maxRecDepth 100000 in
theorem m_X5_rightIfPrinted {l : Launch} {D : va_G} {cA cB : ClassId} {x ss hh pd g vw rk : Nat} {has : Int} {h a0 a1 a2 a3 a4 a5 : Nat} {per win cr : Int} {p d mm sn bd ch : Int → Int} {s b0 b1 b2 b3 b4 : Nat} {len lot : Int} {u P Q M S T : Int → Int} {row pe : Int} (hrow : 0 ≤ row ∧ row < 8) (hpe : 6 ≤ pe ∧ pe ≤ 16) (hbd : ∀ k : Int, 0 ≤ k → k < 32 → 0 ≤ bd k ∧ bd k ≤ 32) (hrel : Rel u S P Q M T len lot) : MI l yX5_rightIfPrinted cX5_rightIfPrinted 3 .int { frames := 4, cells := 0, slots := 0, locals := 89 } D (zT cA cB) [.ref x, .int (zI row), .int (zI pe)] [cO x 5 [.ref s, .ref ss, .int (zI has), .ref hh, .ref pd, .ref h, .ref g, .ref vw, .ref rk], cO h 1 [.ref a0, .ref a1, .ref a2, .ref a3, .ref a4, .ref a5, .int (zI per), .int (zI win), .int (zI cr)], cI cA a0 32 p, cI cA a1 32 d, cI cA a2 32 mm, cI cA a3 32 sn, cI cA a4 32 bd, cI cA a5 32 ch, cO s 4 [.ref b0, .ref b1, .ref b2, .ref b3, .ref b4, .int (zI len), .int (zI lot)], cI cA b0 256 P, cI cA b1 256 Q, cI cA b2 256 M, cI cA b3 6 S, cI cA b4 24 T] (fun r w => ∃ (perx : Int), ∃ (winx : Int), ∃ (crx : Int), ∃ (px : Int → Int), ∃ (dx : Int → Int), ∃ (mmx : Int → Int), ∃ (snx : Int → Int), ∃ (bdx : Int → Int), ∃ (chx : Int → Int), w = [cO x 5 [.ref s, .ref ss, .int (zI has), .ref hh, .ref pd, .ref h, .ref g, .ref vw, .ref rk], cO h 1 [.ref a0, .ref a1, .ref a2, .ref a3, .ref a4, .ref a5, .int (zI perx), .int (zI winx), .int (zI crx)], cI cA a0 32 px, cI cA a1 32 dx, cI cA a2 32 mmx, cI cA a3 32 snx, cI cA a4 32 bdx, cI cA a5 32 chx, cO s 4 [.ref b0, .ref b1, .ref b2, .ref b3, .ref b4, .int (zI len), .int (zI lot)], cI cA b0 256 P, cI cA b1 256 Q, cI cA b2 256 M, cI cA b3 6 S, cI cA b4 24 T] ∧ (r = rprZ u row pe) ∧ (0 ≤ r ∧ r ≤ 32) ∧ (∀ k : Int, 0 ≤ k → k < 32 → 0 ≤ bdx k ∧ bdx k ≤ 32)) := by
  refine MI.of RX5 ⟨rfl, by decide +kernel⟩ (Or.inl rfl) (Nat.le_of_ble_eq_true rfl) (fun h => by cases h) ?_
  intro K C hret
  change K 0 0 _ [(0, .ref x), (1, .int (zI row)), (2, .int (zI pe))] 0 []
  have hRS := hrel.S
  have hRP := hrel.P
  have hRQ := hrel.Q
  have hRM := hrel.M
  have hu := hRS.2
  have hRT := hrel.T
  have hRL := hrel.L
  have hS0 := hRS.1
  refine y_aload_n C 0 dX5_rightIfPrinted_0 rfl ?_
  refine y_get C fg_X5_36 0 dX5_rightIfPrinted_1 rfl rfl ?_
  refine y_aload_n C 0 dX5_rightIfPrinted_4 rfl ?_
  refine y_get C fg_X5_12 0 dX5_rightIfPrinted_5 rfl rfl ?_
  refine y_iload_n C 1 dX5_rightIfPrinted_8 rfl ?_
  refine y_mcallv C (m_X1_takeRow (l := l) (D := D) (cA := cA) (cB := cB) (h := h) (a0 := a0) (a1 := a1) (a2 := a2) (a3 := a3) (a4 := a4) (a5 := a5) (per := per) (win := win) (cr := cr) (s := s) (b0 := b0) (b1 := b1) (b2 := b2) (b3 := b3) (b4 := b4) (len := len) (lot := lot) (p := p) (d := d) (mm := mm) (P := P) (Q := Q) (M := M) (S := S) (row := row) (by first | assumption | omega | exact ⟨by omega, by omega⟩) (by first | assumption | omega | exact ⟨by omega, by omega⟩) (by first | assumption | omega | exact ⟨by omega, by omega⟩) (by first | assumption | omega | exact ⟨by omega, by omega⟩) (by first | assumption | omega | exact ⟨by omega, by omega⟩)) lk_X5_72 [1, 2, 3, 4, 8, 9, 10, 11, 12] [0, 5, 6, 7, 13] ⟨rfl, rfl, by decide, by decide, by decide⟩ (jb := 0) rfl rfl dX5_rightIfPrinted_9 rfl rfl ⟨by exact Nat.le_of_ble_eq_true rfl, by exact Nat.le_of_ble_eq_true rfl, rfl, rfl, by exact Nat.le_of_ble_eq_true rfl, by exact Nat.le_of_ble_eq_true rfl, by exact Nat.le_of_ble_eq_true rfl⟩ (fun w_6 h_1 => ?_)
  obtain ⟨p2_3, d2_4, mm2_5, rfl, h_1⟩ := h_1
  refine ⟨[0, 5, 6, 7, 8, 1, 2, 3, 9, 10, 11, 12, 13, 4], [cO x 5 [.ref s, .ref ss, .int (zI has), .ref hh, .ref pd, .ref h, .ref g, .ref vw, .ref rk], cO h 1 [.ref a0, .ref a1, .ref a2, .ref a3, .ref a4, .ref a5, .int (zI (u 0)), .int (zI (u 2)), .int (zI (u 3))], cI cA a0 32 p2_3, cI cA a1 32 d2_4, cI cA a2 32 mm2_5, cI cA a3 32 sn, cI cA a4 32 bd, cI cA a5 32 ch, cO s 4 [.ref b0, .ref b1, .ref b2, .ref b3, .ref b4, .int (zI len), .int (zI lot)], cI cA b0 256 P, cI cA b1 256 Q, cI cA b2 256 M, cI cA b3 6 S, cI cA b4 24 T], ⟨rfl, by decide⟩, ?_⟩
  obtain ⟨hp4, hd4, hm4⟩ := h_1
  have hp5 : ∀ k : Int, 0 ≤ k → k < 32 → 0 ≤ p2_3 k ∧ p2_3 k ≤ 4 := fun k h0 h1 => by rw [hp4 k h0 h1]; exact (zp_of hRP (by omega) h0 h1).2
  have hd5 : ∀ k : Int, 0 ≤ k → k < 32 → 0 ≤ d2_4 k ∧ d2_4 k ≤ 7 := fun k h0 h1 => by rw [hd4 k h0 h1]; exact (zd_of hRQ (by omega) h0 h1).2
  have hm5 : ∀ k : Int, 0 ≤ k → k < 32 → -4 ≤ mm2_5 k ∧ mm2_5 k ≤ 7 := fun k h0 h1 => by rw [hm4 k h0 h1]; exact (zk_of hRM (by omega) h0 h1).2
  have hpu : ∀ k : Int, 0 ≤ k → k < 32 → p2_3 k < u 0 := fun k h0 h1 => by have := hp5 k h0 h1; omega
  refine y_aload_n C 0 dX5_rightIfPrinted_12 rfl ?_
  refine y_get C fg_X5_36 0 dX5_rightIfPrinted_13 rfl rfl ?_
  refine y_iload_n C 2 dX5_rightIfPrinted_16 rfl ?_
  refine y_put C fp_X5_248 1 [cO x 5 [.ref s, .ref ss, .int (zI has), .ref hh, .ref pd, .ref h, .ref g, .ref vw, .ref rk], cO h 1 [.ref a0, .ref a1, .ref a2, .ref a3, .ref a4, .ref a5, .int (zI pe), .int (zI (u 2)), .int (zI (u 3))], cI cA a0 32 p2_3, cI cA a1 32 d2_4, cI cA a2 32 mm2_5, cI cA a3 32 sn, cI cA a4 32 bd, cI cA a5 32 ch, cO s 4 [.ref b0, .ref b1, .ref b2, .ref b3, .ref b4, .int (zI len), .int (zI lot)], cI cA b0 256 P, cI cA b1 256 Q, cI cA b2 256 M, cI cA b3 6 S, cI cA b4 24 T] dX5_rightIfPrinted_17 rfl rfl rfl (by exact Nat.le_of_ble_eq_true rfl) rfl ?_
  refine y_aload_n C 0 dX5_rightIfPrinted_20 rfl ?_
  refine y_get C fg_X5_36 0 dX5_rightIfPrinted_21 rfl rfl ?_
  refine y_aload_n C 0 dX5_rightIfPrinted_24 rfl ?_
  refine y_get C fg_X5_12 0 dX5_rightIfPrinted_25 rfl rfl ?_
  refine y_mcalli C (m_X1_printFrom (l := l) (D := D) (cA := cA) (cB := cB) (h := h) (a0 := a0) (a1 := a1) (a2 := a2) (a3 := a3) (a4 := a4) (a5 := a5) (per := pe) (win := u 2) (cr := u 3) (s := s) (b0 := b0) (b1 := b1) (b2 := b2) (b3 := b3) (b4 := b4) (len := len) (lot := lot) (p := p2_3) (d := d2_4) (S := S) (T := T) (by first | assumption | omega | exact ⟨by omega, by omega⟩) (by first | assumption | omega | exact ⟨by omega, by omega⟩) (by first | assumption | omega | exact ⟨by omega, by omega⟩) (by exact ⟨hRT.2.1, hRT.2.2.1⟩) (by exact ⟨hRL.2.1, hRL.2.2⟩) (by exact hRT.2.2.2.1) (by omega)) lk_X5_242 [1, 2, 3, 8, 12, 13] [0, 4, 5, 6, 7, 9, 10, 11] ⟨rfl, rfl, by decide, by decide, by decide⟩ (jb := 0) rfl rfl dX5_rightIfPrinted_28 rfl rfl ⟨by exact Nat.le_of_ble_eq_true rfl, by exact Nat.le_of_ble_eq_true rfl, rfl, rfl, by exact Nat.le_of_ble_eq_true rfl, by exact Nat.le_of_ble_eq_true rfl, by exact Nat.le_of_ble_eq_true rfl⟩ (fun r_8 w_10 h_7 => ?_)
  obtain ⟨d2_9, rfl, h_7⟩ := h_7
  refine ⟨[0, 8, 9, 10, 1, 2, 3, 4, 11, 5, 6, 7, 12, 13], [cO x 5 [.ref s, .ref ss, .int (zI has), .ref hh, .ref pd, .ref h, .ref g, .ref vw, .ref rk], cO h 1 [.ref a0, .ref a1, .ref a2, .ref a3, .ref a4, .ref a5, .int (zI pe), .int (zI (u 2)), .int (zI (u 3))], cI cA a0 32 p2_3, cI cA a1 32 d2_9, cI cA a2 32 mm2_5, cI cA a3 32 sn, cI cA a4 32 bd, cI cA a5 32 ch, cO s 4 [.ref b0, .ref b1, .ref b2, .ref b3, .ref b4, .int (zI len), .int (zI lot)], cI cA b0 256 P, cI cA b1 256 Q, cI cA b2 256 M, cI cA b3 6 S, cI cA b4 24 T], ⟨rfl, by decide⟩, ?_⟩
  obtain ⟨hq1, hq2, hq3, hq4⟩ := h_7
  have hpc := prZ_congr (per := pe) (len := len) (col := S 1) (lot := lot) (T := T) (T' := fun j => u (8 + j)) (fun k a b => by have := hp5 k a b; omega) hp4 hd4 (fun k a b => hRT.2.2.2.2 k a b) 32 (Nat.le_refl _)
  have hq5 : ∀ k : Int, 0 ≤ k → k < 32 → d2_9 k = (prZ pe (zp u row) (zd u row) (fun j => u (8 + j)) (u 7) (u 1) (u 6) 32).1 k := fun k a b => by rw [hq3, ← hRT.1, ← hRL.1, ← hS0.2.1]; exact hpc.1 k a b
  refine y_pop C dX5_rightIfPrinted_31 rfl ?_
  refine y_aload_n C 0 dX5_rightIfPrinted_32 rfl ?_
  refine y_get C fg_X5_36 0 dX5_rightIfPrinted_33 rfl rfl ?_
  refine y_mcallv C (m_X1_watch (l := l) (D := D) (cA := cA) (cB := cB) (h := h) (a0 := a0) (a1 := a1) (a2 := a2) (a3 := a3) (a4 := a4) (a5 := a5) (per := pe) (win := u 2) (cr := u 3) (d := d2_9) (sn := sn) (by first | assumption | omega | exact ⟨by omega, by omega⟩) (by first | assumption | omega | exact ⟨by omega, by omega⟩) (by first | assumption | omega | exact ⟨by omega, by omega⟩) (by first | assumption | omega | exact ⟨by omega, by omega⟩)) lk_X5_214 [1, 3, 5] [0, 2, 4, 6, 7, 8, 9, 10, 11, 12, 13] ⟨rfl, rfl, by decide, by decide, by decide⟩ (jb := 0) rfl rfl dX5_rightIfPrinted_36 rfl rfl ⟨by exact Nat.le_of_ble_eq_true rfl, by exact Nat.le_of_ble_eq_true rfl, rfl, rfl, by exact Nat.le_of_ble_eq_true rfl, by exact Nat.le_of_ble_eq_true rfl, by exact Nat.le_of_ble_eq_true rfl⟩ (fun w_14 h_11 => ?_)
  obtain ⟨sn2_13, rfl, h_11⟩ := h_11
  refine ⟨[0, 11, 1, 12, 2, 13, 3, 4, 5, 6, 7, 8, 9, 10], [cO x 5 [.ref s, .ref ss, .int (zI has), .ref hh, .ref pd, .ref h, .ref g, .ref vw, .ref rk], cO h 1 [.ref a0, .ref a1, .ref a2, .ref a3, .ref a4, .ref a5, .int (zI pe), .int (zI (u 2)), .int (zI (u 3))], cI cA a0 32 p2_3, cI cA a1 32 d2_9, cI cA a2 32 mm2_5, cI cA a3 32 sn2_13, cI cA a4 32 bd, cI cA a5 32 ch, cO s 4 [.ref b0, .ref b1, .ref b2, .ref b3, .ref b4, .int (zI len), .int (zI lot)], cI cA b0 256 P, cI cA b1 256 Q, cI cA b2 256 M, cI cA b3 6 S, cI cA b4 24 T], ⟨rfl, by decide⟩, ?_⟩
  have hw : ∀ k : Int, 0 ≤ k → k < 32 → sn2_13 k = seeZ pe (u 2) (u 3) (prZ pe (zp u row) (zd u row) (fun j => u (8 + j)) (u 7) (u 1) (u 6) 32).1 k := fun k a b => ((h_11) k a b).trans (seeZ_congr hq5 hpe.1)
  have hw5 : ∀ k : Int, 0 ≤ k → k < 32 → -4 ≤ sn2_13 k ∧ sn2_13 k ≤ 4 := fun k a b => by rw [hw k a b]; have := seeZ_r pe (u 2) (u 3) (prZ pe (zp u row) (zd u row) (fun j => u (8 + j)) (u 7) (u 1) (u 6) 32).1 k; omega
  refine y_aload_n C 0 dX5_rightIfPrinted_39 rfl ?_
  refine y_get C fg_X5_36 0 dX5_rightIfPrinted_40 rfl rfl ?_
  refine y_iconst C dX5_rightIfPrinted_43 ?_
  refine y_pcall C (m_X1_placesOfKind (l := l) (D := D) (cA := cA) (cB := cB) (h := h) (a0 := a0) (a1 := a1) (a2 := a2) (a3 := a3) (a4 := a4) (a5 := a5) (per := pe) (win := u 2) (cr := u 3) (p := p2_3) (d := d2_9) (mm := mm2_5) (sn := sn2_13) (bd := bd) (kind := 4) (by first | assumption | omega | exact ⟨by omega, by omega⟩) (by first | assumption | omega | exact ⟨by omega, by omega⟩) (by first | assumption | omega | exact ⟨by omega, by omega⟩) (by first | assumption | omega | exact ⟨by omega, by omega⟩) (by first | assumption | omega | exact ⟨by omega, by omega⟩) (by first | assumption | omega | exact ⟨by omega, by omega⟩) (by first | assumption | omega | exact ⟨by omega, by omega⟩)) lk_X5_179 [1, 2, 3, 4, 5, 6] [0, 7, 8, 9, 10, 11, 12, 13] [0, 8, 9, 10, 11, 12, 13, 1, 2, 3, 4, 5, 6, 7] ⟨rfl, rfl, by decide, by decide, by decide⟩ ⟨rfl, by decide⟩ rfl rfl dX5_rightIfPrinted_44 rfl rfl ⟨by exact Nat.le_of_ble_eq_true rfl, by exact Nat.le_of_ble_eq_true rfl, rfl, rfl, by exact Nat.le_of_ble_eq_true rfl, by exact Nat.le_of_ble_eq_true rfl, by exact Nat.le_of_ble_eq_true rfl⟩ (fun r_16 h_15 => ?_)
  have hv := h_15
  refine hret _ _ _ _ dX5_rightIfPrinted_47 ⟨pe, (u 2), (u 3), p2_3, d2_9, mm2_5, sn2_13, bd, ch, rfl, ?_⟩
  show (r_16 = rprZ u row pe) ∧ (0 ≤ r_16 ∧ r_16 ≤ 32) ∧ (∀ k : Int, 0 ≤ k → k < 32 → 0 ≤ bd k ∧ bd k ≤ 32)
  refine ⟨?_, hv.2, hbd⟩
  unfold rprZ
  rw [hv.1, knd4]
  exact zcnt_congr (fun k a b => by rw [hw k a b, hp4 k a b])

set_option maxHeartbeats 4000000 in
set_option maxRecDepth 100000 in
theorem m_X5_ifPrinted {l : Launch} {D : va_G} {cA cB : ClassId} {x ss hh pd g vw rk : Nat} {has : Int} {h a0 a1 a2 a3 a4 a5 : Nat} {per win cr : Int} {p d mm sn bd ch : Int → Int} {s b0 b1 b2 b3 b4 : Nat} {len lot : Int} {u P Q M S T : Int → Int} {row pe : Int} (hzrow : zR row) (hzpe : zR pe) (hbd : ∀ k : Int, 0 ≤ k → k < 32 → 0 ≤ bd k ∧ bd k ≤ 32) (hrel : Rel u S P Q M T len lot) : MI l yX5_ifPrinted cX5_ifPrinted 3 .int { frames := 5, cells := 0, slots := 0, locals := 111 } D (zT cA cB) [.ref x, .int (zI row), .int (zI pe)] [cO x 5 [.ref s, .ref ss, .int (zI has), .ref hh, .ref pd, .ref h, .ref g, .ref vw, .ref rk], cO h 1 [.ref a0, .ref a1, .ref a2, .ref a3, .ref a4, .ref a5, .int (zI per), .int (zI win), .int (zI cr)], cI cA a0 32 p, cI cA a1 32 d, cI cA a2 32 mm, cI cA a3 32 sn, cI cA a4 32 bd, cI cA a5 32 ch, cO s 4 [.ref b0, .ref b1, .ref b2, .ref b3, .ref b4, .int (zI len), .int (zI lot)], cI cA b0 256 P, cI cA b1 256 Q, cI cA b2 256 M, cI cA b3 6 S, cI cA b4 24 T] (fun r w => ∃ (perx : Int), ∃ (winx : Int), ∃ (crx : Int), ∃ (px : Int → Int), ∃ (dx : Int → Int), ∃ (mmx : Int → Int), ∃ (snx : Int → Int), ∃ (bdx : Int → Int), ∃ (chx : Int → Int), w = [cO x 5 [.ref s, .ref ss, .int (zI has), .ref hh, .ref pd, .ref h, .ref g, .ref vw, .ref rk], cO h 1 [.ref a0, .ref a1, .ref a2, .ref a3, .ref a4, .ref a5, .int (zI perx), .int (zI winx), .int (zI crx)], cI cA a0 32 px, cI cA a1 32 dx, cI cA a2 32 mmx, cI cA a3 32 snx, cI cA a4 32 bdx, cI cA a5 32 chx, cO s 4 [.ref b0, .ref b1, .ref b2, .ref b3, .ref b4, .int (zI len), .int (zI lot)], cI cA b0 256 P, cI cA b1 256 Q, cI cA b2 256 M, cI cA b3 6 S, cI cA b4 24 T] ∧ (r = ansIfPr u row pe) ∧ (∀ k : Int, 0 ≤ k → k < 32 → 0 ≤ bdx k ∧ bdx k ≤ 32)) := by
  refine MI.of RX5 ⟨rfl, by decide +kernel⟩ (Or.inl rfl) (Nat.le_of_ble_eq_true rfl) (fun h => by cases h) ?_
  intro K C hret
  change K 0 0 _ [(0, .ref x), (1, .int (zI row)), (2, .int (zI pe))] 0 []
  have hzrow1 := hzrow.1
  have hzrow2 := hzrow.2
  have hzpe1 := hzpe.1
  have hzpe2 := hzpe.2
  refine y_iload_n C 1 dX5_ifPrinted_0 rfl ?_
  refine y_pcalls C (m_X5_isRow (l := l) (D := D) (cA := cA) (cB := cB) (x := row) (by first | assumption | omega | exact ⟨by omega, by omega⟩)) lk_X5_50 [] [0, 1, 2, 3, 4, 5, 6, 7, 8, 9, 10, 11, 12, 13] [0, 1, 2, 3, 4, 5, 6, 7, 8, 9, 10, 11, 12, 13] ⟨rfl, rfl, by decide, by decide, by decide⟩ ⟨rfl, by decide⟩ dX5_ifPrinted_1 rfl rfl ⟨by exact Nat.le_of_ble_eq_true rfl, by exact Nat.le_of_ble_eq_true rfl, rfl, rfl, by exact Nat.le_of_ble_eq_true rfl, by exact Nat.le_of_ble_eq_true rfl, by exact Nat.le_of_ble_eq_true rfl⟩ (fun r_2 h_1 => ?_)
  refine y_if_eq C 19 dX5_ifPrinted_4 (by decide) ⟨by omega, by omega⟩ (fun c_3 => ?_) (fun c_3 => ?_)
  · refine y_iconst C dX5_ifPrinted_19 ?_
    refine hret _ _ _ _ dX5_ifPrinted_20 ⟨per, win, cr, p, d, mm, sn, bd, ch, rfl, ?_⟩
    show ((-1) = ansIfPr u row pe) ∧ (∀ k : Int, 0 ≤ k → k < 32 → 0 ≤ bd k ∧ bd k ≤ 32)
    refine ⟨?_, hbd⟩
    unfold ansIfPr
    rw [if_neg (by omega)]
  · refine y_iload_n C 2 dX5_ifPrinted_7 rfl ?_
    refine y_bipush C dX5_ifPrinted_8 (by decide +kernel) ?_
    refine y_icmp_lt C 19 dX5_ifPrinted_10 (by decide) ⟨⟨by omega, by omega⟩, ⟨by omega, by omega⟩⟩ (fun c_4 => ?_) (fun c_4 => ?_)
    · refine y_iconst C dX5_ifPrinted_19 ?_
      refine hret _ _ _ _ dX5_ifPrinted_20 ⟨per, win, cr, p, d, mm, sn, bd, ch, rfl, ?_⟩
      show ((-1) = ansIfPr u row pe) ∧ (∀ k : Int, 0 ≤ k → k < 32 → 0 ≤ bd k ∧ bd k ≤ 32)
      refine ⟨?_, hbd⟩
      unfold ansIfPr
      rw [if_neg (by omega)]
    · refine y_iload_n C 2 dX5_ifPrinted_13 rfl ?_
      refine y_bipush C dX5_ifPrinted_14 (by decide +kernel) ?_
      refine y_icmp_le C 21 dX5_ifPrinted_16 (by decide) ⟨⟨by omega, by omega⟩, ⟨by omega, by omega⟩⟩ (fun c_5 => ?_) (fun c_5 => ?_)
      · refine y_aload_n C 0 dX5_ifPrinted_21 rfl ?_
        refine y_iload_n C 1 dX5_ifPrinted_22 rfl ?_
        refine y_iload_n C 2 dX5_ifPrinted_23 rfl ?_
        refine y_mcalli C (m_X5_rightIfPrinted (l := l) (D := D) (cA := cA) (cB := cB) (x := x) (ss := ss) (hh := hh) (pd := pd) (g := g) (vw := vw) (rk := rk) (has := has) (h := h) (a0 := a0) (a1 := a1) (a2 := a2) (a3 := a3) (a4 := a4) (a5 := a5) (per := per) (win := win) (cr := cr) (p := p) (d := d) (mm := mm) (sn := sn) (bd := bd) (ch := ch) (s := s) (b0 := b0) (b1 := b1) (b2 := b2) (b3 := b3) (b4 := b4) (len := len) (lot := lot) (P := P) (Q := Q) (M := M) (S := S) (T := T) (row := row) (pe := pe) (by first | assumption | omega | exact ⟨by omega, by omega⟩) (by first | assumption | omega | exact ⟨by omega, by omega⟩) (by first | assumption | omega | exact ⟨by omega, by omega⟩) (by first | assumption | omega | exact ⟨by omega, by omega⟩)) lk_X5_225 [0, 1, 2, 3, 4, 5, 6, 7, 8, 9, 10, 11, 12, 13] [] ⟨rfl, rfl, by decide, by decide, by decide⟩ (jb := 0) rfl rfl dX5_ifPrinted_24 rfl rfl ⟨by exact Nat.le_of_ble_eq_true rfl, by exact Nat.le_of_ble_eq_true rfl, rfl, rfl, by exact Nat.le_of_ble_eq_true rfl, by exact Nat.le_of_ble_eq_true rfl, by exact Nat.le_of_ble_eq_true rfl⟩ (fun r_7 w_17 h_6 => ?_)
        obtain ⟨perx_8, winx_9, crx_10, px_11, dx_12, mmx_13, snx_14, bdx_15, chx_16, rfl, h_6⟩ := h_6
        refine ⟨[0, 1, 2, 3, 4, 5, 6, 7, 8, 9, 10, 11, 12, 13], [cO x 5 [.ref s, .ref ss, .int (zI has), .ref hh, .ref pd, .ref h, .ref g, .ref vw, .ref rk], cO h 1 [.ref a0, .ref a1, .ref a2, .ref a3, .ref a4, .ref a5, .int (zI perx_8), .int (zI winx_9), .int (zI crx_10)], cI cA a0 32 px_11, cI cA a1 32 dx_12, cI cA a2 32 mmx_13, cI cA a3 32 snx_14, cI cA a4 32 bdx_15, cI cA a5 32 chx_16, cO s 4 [.ref b0, .ref b1, .ref b2, .ref b3, .ref b4, .int (zI len), .int (zI lot)], cI cA b0 256 P, cI cA b1 256 Q, cI cA b2 256 M, cI cA b3 6 S, cI cA b4 24 T], ⟨rfl, by decide⟩, ?_⟩
        have hv := h_6
        refine hret _ _ _ _ dX5_ifPrinted_27 ⟨perx_8, winx_9, crx_10, px_11, dx_12, mmx_13, snx_14, bdx_15, chx_16, rfl, ?_⟩
        show (r_7 = ansIfPr u row pe) ∧ (∀ k : Int, 0 ≤ k → k < 32 → 0 ≤ bdx_15 k ∧ bdx_15 k ≤ 32)
        refine ⟨?_, hv.2.2⟩
        unfold ansIfPr
        rw [if_pos (by omega)]
        exact hv.1
      · refine y_iconst C dX5_ifPrinted_19 ?_
        refine hret _ _ _ _ dX5_ifPrinted_20 ⟨per, win, cr, p, d, mm, sn, bd, ch, rfl, ?_⟩
        show ((-1) = ansIfPr u row pe) ∧ (∀ k : Int, 0 ≤ k → k < 32 → 0 ≤ bd k ∧ bd k ≤ 32)
        refine ⟨?_, hbd⟩
        unfold ansIfPr
        rw [if_neg (by omega)]

set_option maxHeartbeats 4000000 in
set_option maxRecDepth 100000 in
theorem m_X5_shortest {l : Launch} {D : va_G} {cA cB : ClassId} {x ss hh pd g vw rk : Nat} {has : Int} {h a0 a1 a2 a3 a4 a5 : Nat} {per win cr : Int} {p d mm sn bd ch : Int → Int} {s b0 b1 b2 b3 b4 : Nat} {len lot : Int} {u P Q M S T : Int → Int} {row : Int} (hzrow : zR row) (hbd : ∀ k : Int, 0 ≤ k → k < 32 → 0 ≤ bd k ∧ bd k ≤ 32) (hrel : Rel u S P Q M T len lot) : MI l yX5_shortest cX5_shortest 6 .int { frames := 5, cells := 0, slots := 0, locals := 111 } D (zT cA cB) [.ref x, .int (zI row)] [cO x 5 [.ref s, .ref ss, .int (zI has), .ref hh, .ref pd, .ref h, .ref g, .ref vw, .ref rk], cO h 1 [.ref a0, .ref a1, .ref a2, .ref a3, .ref a4, .ref a5, .int (zI per), .int (zI win), .int (zI cr)], cI cA a0 32 p, cI cA a1 32 d, cI cA a2 32 mm, cI cA a3 32 sn, cI cA a4 32 bd, cI cA a5 32 ch, cO s 4 [.ref b0, .ref b1, .ref b2, .ref b3, .ref b4, .int (zI len), .int (zI lot)], cI cA b0 256 P, cI cA b1 256 Q, cI cA b2 256 M, cI cA b3 6 S, cI cA b4 24 T] (fun r w => ∃ (perx : Int), ∃ (winx : Int), ∃ (crx : Int), ∃ (px : Int → Int), ∃ (dx : Int → Int), ∃ (mmx : Int → Int), ∃ (snx : Int → Int), ∃ (bdx : Int → Int), ∃ (chx : Int → Int), w = [cO x 5 [.ref s, .ref ss, .int (zI has), .ref hh, .ref pd, .ref h, .ref g, .ref vw, .ref rk], cO h 1 [.ref a0, .ref a1, .ref a2, .ref a3, .ref a4, .ref a5, .int (zI perx), .int (zI winx), .int (zI crx)], cI cA a0 32 px, cI cA a1 32 dx, cI cA a2 32 mmx, cI cA a3 32 snx, cI cA a4 32 bdx, cI cA a5 32 chx, cO s 4 [.ref b0, .ref b1, .ref b2, .ref b3, .ref b4, .int (zI len), .int (zI lot)], cI cA b0 256 P, cI cA b1 256 Q, cI cA b2 256 M, cI cA b3 6 S, cI cA b4 24 T] ∧ (r = ansShort u row) ∧ (∀ k : Int, 0 ≤ k → k < 32 → 0 ≤ bdx k ∧ bdx k ≤ 32)) := by
  refine MI.of RX5 ⟨rfl, by decide +kernel⟩ (Or.inl rfl) (Nat.le_of_ble_eq_true rfl) (fun h => by cases h) ?_
  intro K C hret
  change K 0 0 _ [(0, .ref x), (1, .int (zI row))] 0 []
  have hzrow1 := hzrow.1
  have hzrow2 := hzrow.2
  refine y_iload_n C 1 dX5_shortest_0 rfl ?_
  refine y_pcalls C (m_X5_isRow (l := l) (D := D) (cA := cA) (cB := cB) (x := row) (by first | assumption | omega | exact ⟨by omega, by omega⟩)) lk_X5_50 [] [0, 1, 2, 3, 4, 5, 6, 7, 8, 9, 10, 11, 12, 13] [0, 1, 2, 3, 4, 5, 6, 7, 8, 9, 10, 11, 12, 13] ⟨rfl, rfl, by decide, by decide, by decide⟩ ⟨rfl, by decide⟩ dX5_shortest_1 rfl rfl ⟨by exact Nat.le_of_ble_eq_true rfl, by exact Nat.le_of_ble_eq_true rfl, rfl, rfl, by exact Nat.le_of_ble_eq_true rfl, by exact Nat.le_of_ble_eq_true rfl, by exact Nat.le_of_ble_eq_true rfl⟩ (fun r_2 h_1 => ?_)
  refine y_if_ne C 9 dX5_shortest_4 (by decide) ⟨by omega, by omega⟩ (fun c_3 => ?_) (fun c_3 => ?_)
  · refine y_bipush C dX5_shortest_9 (by decide +kernel) ?_
    refine y_istore_n C [(2, .int (zI 6)), (0, .ref x), (1, .int (zI row))] dX5_shortest_11 (by decide) rfl ?_
    refine y_iconst C dX5_shortest_12 ?_
    refine y_istore_n C [(3, .int (zI (-1))), (2, .int (zI 6)), (0, .ref x), (1, .int (zI row))] dX5_shortest_13 (by decide) rfl ?_
    refine y_bipush C dX5_shortest_14 (by decide +kernel) ?_
    refine y_istore C [(4, .int (zI 6)), (3, .int (zI (-1))), (2, .int (zI 6)), (0, .ref x), (1, .int (zI row))] dX5_shortest_16 (by decide) rfl ?_
    refine y_lsub C [3, 4, 2, 1, 0] (lv' := [(0, .ref x), (1, .int (zI row)), (2, .int (zI 6)), (3, .int (zI (-1))), (4, .int (zI 6))]) rfl ?_
    suffices hL18 : ∀ (fu : Nat) (best : Int) (most : Int) (pe : Int) (p6 : Int → Int) (d6 : Int → Int) (mm6 : Int → Int) (sn6 : Int → Int) (bd6 : Int → Int) (ch6 : Int → Int) (per6 : Int) (win6 : Int) (cr6 : Int), (6 ≤ pe ∧ pe ≤ 17) → (-1 ≤ most ∧ most ≤ 32 ∧ 6 ≤ best ∧ best ≤ 16) → ((pe = 6 ∧ best = 6 ∧ most = -1) ∨ (6 < pe ∧ 6 ≤ best ∧ best < pe ∧ most = rprZ u row best ∧ 0 ≤ most ∧ most ≤ 32 ∧ ∀ k : Int, 6 ≤ k → k < pe → rprZ u row k < most ∨ (rprZ u row k = most ∧ best ≤ k))) → (∀ k : Int, 0 ≤ k → k < 32 → 0 ≤ bd6 k ∧ bd6 k ≤ 32) → (20 - pe).toNat < fu → K 0 0 [cO x 5 [.ref s, .ref ss, .int (zI has), .ref hh, .ref pd, .ref h, .ref g, .ref vw, .ref rk], cO h 1 [.ref a0, .ref a1, .ref a2, .ref a3, .ref a4, .ref a5, .int (zI per6), .int (zI win6), .int (zI cr6)], cI cA a0 32 p6, cI cA a1 32 d6, cI cA a2 32 mm6, cI cA a3 32 sn6, cI cA a4 32 bd6, cI cA a5 32 ch6, cO s 4 [.ref b0, .ref b1, .ref b2, .ref b3, .ref b4, .int (zI len), .int (zI lot)], cI cA b0 256 P, cI cA b1 256 Q, cI cA b2 256 M, cI cA b3 6 S, cI cA b4 24 T] [(0, .ref x), (1, .int (zI row)), (2, .int (zI best)), (3, .int (zI most)), (4, .int (zI pe))] 18 [] from hL18 _ 6 (-1) 6 p d mm sn bd ch per win cr (by omega) (by omega) (by exact Or.inl ⟨rfl, rfl, rfl⟩) (by exact hbd) (Nat.lt_succ_self _)
    intro f18
    induction f18 with
    | zero => exact fun _ _ _ _ _ _ _ _ _ _ _ _ _ _ _ _ hf => absurd hf (Nat.not_lt_zero _)
    | succ f18 ih18 =>
      intro best most pe p6 d6 mm6 sn6 bd6 ch6 per6 win6 cr6 hpe hmo hbst hb6 hf18
      refine y_iload C 4 dX5_shortest_18 rfl ?_
      refine y_bipush C dX5_shortest_20 (by decide +kernel) ?_
      refine y_icmp_gt C 52 dX5_shortest_22 (by decide) ⟨⟨by omega, by omega⟩, ⟨by omega, by omega⟩⟩ (fun c_4 => ?_) (fun c_4 => ?_)
      · refine y_iload_n C 2 dX5_shortest_52 rfl ?_
        refine hret _ _ _ _ dX5_shortest_53 ⟨per6, win6, cr6, p6, d6, mm6, sn6, bd6, ch6, rfl, ?_⟩
        show (best = ansShort u row) ∧ (∀ k : Int, 0 ≤ k → k < 32 → 0 ≤ bd6 k ∧ bd6 k ≤ 32)
        refine ⟨?_, hb6⟩
        unfold ansShort
        rw [if_pos (by omega)]
        obtain rfl : pe = 17 := by omega
        rcases hbst with z | ⟨z1, z2, z3, z4, z5, z6, z7⟩
        · omega
        · exact (bestZ_of ⟨by omega, by omega, fun k a b => by rw [← z4]; exact z7 k a (by omega)⟩).symm
      · refine y_aload_n C 0 dX5_shortest_25 rfl ?_
        refine y_iload_n C 1 dX5_shortest_26 rfl ?_
        refine y_iload C 4 dX5_shortest_27 rfl ?_
        refine y_mcalli C (m_X5_rightIfPrinted (l := l) (D := D) (cA := cA) (cB := cB) (x := x) (ss := ss) (hh := hh) (pd := pd) (g := g) (vw := vw) (rk := rk) (has := has) (h := h) (a0 := a0) (a1 := a1) (a2 := a2) (a3 := a3) (a4 := a4) (a5 := a5) (per := per6) (win := win6) (cr := cr6) (p := p6) (d := d6) (mm := mm6) (sn := sn6) (bd := bd6) (ch := ch6) (s := s) (b0 := b0) (b1 := b1) (b2 := b2) (b3 := b3) (b4 := b4) (len := len) (lot := lot) (P := P) (Q := Q) (M := M) (S := S) (T := T) (row := row) (pe := pe) (by first | assumption | omega | exact ⟨by omega, by omega⟩) (by first | assumption | omega | exact ⟨by omega, by omega⟩) (by first | assumption | omega | exact ⟨by omega, by omega⟩) (by first | assumption | omega | exact ⟨by omega, by omega⟩)) lk_X5_225 [0, 1, 2, 3, 4, 5, 6, 7, 8, 9, 10, 11, 12, 13] [] ⟨rfl, rfl, by decide, by decide, by decide⟩ (jb := 0) rfl rfl dX5_shortest_29 rfl rfl ⟨by exact Nat.le_of_ble_eq_true rfl, by exact Nat.le_of_ble_eq_true rfl, rfl, rfl, by exact Nat.le_of_ble_eq_true rfl, by exact Nat.le_of_ble_eq_true rfl, by exact Nat.le_of_ble_eq_true rfl⟩ (fun r_6 w_16 h_5 => ?_)
        obtain ⟨perx_7, winx_8, crx_9, px_10, dx_11, mmx_12, snx_13, bdx_14, chx_15, rfl, h_5⟩ := h_5
        refine ⟨[0, 1, 2, 3, 4, 5, 6, 7, 8, 9, 10, 11, 12, 13], [cO x 5 [.ref s, .ref ss, .int (zI has), .ref hh, .ref pd, .ref h, .ref g, .ref vw, .ref rk], cO h 1 [.ref a0, .ref a1, .ref a2, .ref a3, .ref a4, .ref a5, .int (zI perx_7), .int (zI winx_8), .int (zI crx_9)], cI cA a0 32 px_10, cI cA a1 32 dx_11, cI cA a2 32 mmx_12, cI cA a3 32 snx_13, cI cA a4 32 bdx_14, cI cA a5 32 chx_15, cO s 4 [.ref b0, .ref b1, .ref b2, .ref b3, .ref b4, .int (zI len), .int (zI lot)], cI cA b0 256 P, cI cA b1 256 Q, cI cA b2 256 M, cI cA b3 6 S, cI cA b4 24 T], ⟨rfl, by decide⟩, ?_⟩
        have hv := h_5
        refine y_istore C [(5, .int (zI r_6)), (0, .ref x), (1, .int (zI row)), (2, .int (zI best)), (3, .int (zI most)), (4, .int (zI pe))] dX5_shortest_32 (by decide) rfl ?_
        refine y_iload C 0 dX5_shortest_34 rfl ?_
        refine y_iload_n C 4 dX5_shortest_36 rfl ?_
        refine y_icmp_le C 46 dX5_shortest_37 (by decide) ⟨⟨by omega, by omega⟩, ⟨by omega, by omega⟩⟩ (fun c_17 => ?_) (fun c_17 => ?_)
        · refine y_iinc C 5 [(4, .int (zI (pe + 1))), (5, .int (zI r_6)), (0, .ref x), (1, .int (zI row)), (2, .int (zI best)), (3, .int (zI most))] dX5_shortest_46 rfl (by decide) rfl ?_
          refine y_goto C 18 dX5_shortest_49 (by decide) ?_
          refine y_lsub C [2, 3, 4, 5, 0] (lv' := [(0, .ref x), (1, .int (zI row)), (2, .int (zI best)), (3, .int (zI most)), (4, .int (zI (pe + 1)))]) rfl ?_
          exact ih18 best most (pe + 1) px_10 dx_11 mmx_12 snx_13 bdx_14 chx_15 perx_7 winx_8 crx_9 (by omega) (by omega) (by rcases hbst with ⟨z1, z2, z3⟩ | ⟨z1, z2, z3, z4, z5, z6, z7⟩; (first | (exfalso; omega) | exact Or.inr ⟨by omega, by omega, by omega, hv.1, by omega, by omega, fun k a b => by obtain rfl : k = pe := (by omega); exact Or.inr ⟨hv.1.symm, Int.le_refl _⟩⟩); (first | exact Or.inr ⟨by omega, by omega, by omega, hv.1, by omega, by omega, fun k a b => by rcases (show k < pe ∨ k = pe from by omega) with e | e; (have := z7 k a e; omega); (subst e; exact Or.inr ⟨hv.1.symm, Int.le_refl _⟩)⟩ | exact Or.inr ⟨by omega, by omega, by omega, z4, by omega, by omega, fun k a b => by rcases (show k < pe ∨ k = pe from by omega) with e | e; (exact z7 k a e); (subst e; have := hv.1; omega)⟩)) (by exact hv.2.2) (by omega)
        · refine y_iload C 0 dX5_shortest_40 rfl ?_
          refine y_istore_n C [(3, .int (zI r_6)), (5, .int (zI r_6)), (0, .ref x), (1, .int (zI row)), (2, .int (zI best)), (4, .int (zI pe))] dX5_shortest_42 (by decide) rfl ?_
          refine y_iload C 5 dX5_shortest_43 rfl ?_
          refine y_istore_n C [(2, .int (zI pe)), (3, .int (zI r_6)), (5, .int (zI r_6)), (0, .ref x), (1, .int (zI row)), (4, .int (zI pe))] dX5_shortest_45 (by decide) rfl ?_
          refine y_iinc C 5 [(4, .int (zI (pe + 1))), (2, .int (zI pe)), (3, .int (zI r_6)), (5, .int (zI r_6)), (0, .ref x), (1, .int (zI row))] dX5_shortest_46 rfl (by decide) rfl ?_
          refine y_goto C 18 dX5_shortest_49 (by decide) ?_
          refine y_lsub C [4, 5, 1, 2, 0] (lv' := [(0, .ref x), (1, .int (zI row)), (2, .int (zI pe)), (3, .int (zI r_6)), (4, .int (zI (pe + 1)))]) rfl ?_
          exact ih18 pe r_6 (pe + 1) px_10 dx_11 mmx_12 snx_13 bdx_14 chx_15 perx_7 winx_8 crx_9 (by omega) (by omega) (by rcases hbst with ⟨z1, z2, z3⟩ | ⟨z1, z2, z3, z4, z5, z6, z7⟩; (first | (exfalso; omega) | exact Or.inr ⟨by omega, by omega, by omega, hv.1, by omega, by omega, fun k a b => by obtain rfl : k = pe := (by omega); exact Or.inr ⟨hv.1.symm, Int.le_refl _⟩⟩); (first | exact Or.inr ⟨by omega, by omega, by omega, hv.1, by omega, by omega, fun k a b => by rcases (show k < pe ∨ k = pe from by omega) with e | e; (have := z7 k a e; omega); (subst e; exact Or.inr ⟨hv.1.symm, Int.le_refl _⟩)⟩ | exact Or.inr ⟨by omega, by omega, by omega, z4, by omega, by omega, fun k a b => by rcases (show k < pe ∨ k = pe from by omega) with e | e; (exact z7 k a e); (subst e; have := hv.1; omega)⟩)) (by exact hv.2.2) (by omega)
  · refine y_iconst C dX5_shortest_7 ?_
    refine hret _ _ _ _ dX5_shortest_8 ⟨per, win, cr, p, d, mm, sn, bd, ch, rfl, ?_⟩
    show ((-1) = ansShort u row) ∧ (∀ k : Int, 0 ≤ k → k < 32 → 0 ≤ bd k ∧ bd k ≤ 32)
    refine ⟨?_, hbd⟩
    unfold ansShort
    rw [if_neg (by omega)]

set_option maxHeartbeats 4000000 in
set_option maxRecDepth 100000 in
theorem m_X5_bestWindow {l : Launch} {D : va_G} {cA cB : ClassId} {x ss hh pd g vw rk : Nat} {has : Int} {h a0 a1 a2 a3 a4 a5 : Nat} {per win cr : Int} {p d mm sn bd ch : Int → Int} {s b0 b1 b2 b3 b4 : Nat} {len lot : Int} {u P Q M S T : Int → Int} {row : Int} (hzrow : zR row) (hbd : ∀ k : Int, 0 ≤ k → k < 32 → 0 ≤ bd k ∧ bd k ≤ 32) (hrel : Rel u S P Q M T len lot) : MI l yX5_bestWindow cX5_bestWindow 6 .int { frames := 4, cells := 0, slots := 0, locals := 89 } D (zT cA cB) [.ref x, .int (zI row)] [cO x 5 [.ref s, .ref ss, .int (zI has), .ref hh, .ref pd, .ref h, .ref g, .ref vw, .ref rk], cO h 1 [.ref a0, .ref a1, .ref a2, .ref a3, .ref a4, .ref a5, .int (zI per), .int (zI win), .int (zI cr)], cI cA a0 32 p, cI cA a1 32 d, cI cA a2 32 mm, cI cA a3 32 sn, cI cA a4 32 bd, cI cA a5 32 ch, cO s 4 [.ref b0, .ref b1, .ref b2, .ref b3, .ref b4, .int (zI len), .int (zI lot)], cI cA b0 256 P, cI cA b1 256 Q, cI cA b2 256 M, cI cA b3 6 S] (fun r w => ∃ (perx : Int), ∃ (winx : Int), ∃ (crx : Int), ∃ (px : Int → Int), ∃ (dx : Int → Int), ∃ (mmx : Int → Int), ∃ (snx : Int → Int), ∃ (bdx : Int → Int), ∃ (chx : Int → Int), w = [cO x 5 [.ref s, .ref ss, .int (zI has), .ref hh, .ref pd, .ref h, .ref g, .ref vw, .ref rk], cO h 1 [.ref a0, .ref a1, .ref a2, .ref a3, .ref a4, .ref a5, .int (zI perx), .int (zI winx), .int (zI crx)], cI cA a0 32 px, cI cA a1 32 dx, cI cA a2 32 mmx, cI cA a3 32 snx, cI cA a4 32 bdx, cI cA a5 32 chx, cO s 4 [.ref b0, .ref b1, .ref b2, .ref b3, .ref b4, .int (zI len), .int (zI lot)], cI cA b0 256 P, cI cA b1 256 Q, cI cA b2 256 M, cI cA b3 6 S] ∧ (r = ansBestW u row) ∧ (∀ k : Int, 0 ≤ k → k < 32 → 0 ≤ bdx k ∧ bdx k ≤ 32)) := by
  refine MI.of RX5 ⟨rfl, by decide +kernel⟩ (Or.inl rfl) (Nat.le_of_ble_eq_true rfl) (fun h => by cases h) ?_
  intro K C hret
  change K 0 0 _ [(0, .ref x), (1, .int (zI row))] 0 []
  have hRS := hrel.S
  have hRP := hrel.P
  have hRQ := hrel.Q
  have hRM := hrel.M
  have hu := hRS.2
  have hzrow1 := hzrow.1
  have hzrow2 := hzrow.2
  refine y_iload_n C 1 dX5_bestWindow_0 rfl ?_
  refine y_pcalls C (m_X5_isRow (l := l) (D := D) (cA := cA) (cB := cB) (x := row) (by first | assumption | omega | exact ⟨by omega, by omega⟩)) lk_X5_50 [] [0, 1, 2, 3, 4, 5, 6, 7, 8, 9, 10, 11, 12] [0, 1, 2, 3, 4, 5, 6, 7, 8, 9, 10, 11, 12] ⟨rfl, rfl, by decide, by decide, by decide⟩ ⟨rfl, by decide⟩ dX5_bestWindow_1 rfl rfl ⟨by exact Nat.le_of_ble_eq_true rfl, by exact Nat.le_of_ble_eq_true rfl, rfl, rfl, by exact Nat.le_of_ble_eq_true rfl, by exact Nat.le_of_ble_eq_true rfl, by exact Nat.le_of_ble_eq_true rfl⟩ (fun r_2 h_1 => ?_)
  refine y_if_ne C 9 dX5_bestWindow_4 (by decide) ⟨by omega, by omega⟩ (fun c_3 => ?_) (fun c_3 => ?_)
  · refine y_aload_n C 0 dX5_bestWindow_9 rfl ?_
    refine y_get C fg_X5_36 0 dX5_bestWindow_10 rfl rfl ?_
    refine y_aload_n C 0 dX5_bestWindow_13 rfl ?_
    refine y_get C fg_X5_12 0 dX5_bestWindow_14 rfl rfl ?_
    refine y_iload_n C 1 dX5_bestWindow_17 rfl ?_
    refine y_mcallv C (m_X1_takeRow (l := l) (D := D) (cA := cA) (cB := cB) (h := h) (a0 := a0) (a1 := a1) (a2 := a2) (a3 := a3) (a4 := a4) (a5 := a5) (per := per) (win := win) (cr := cr) (s := s) (b0 := b0) (b1 := b1) (b2 := b2) (b3 := b3) (b4 := b4) (len := len) (lot := lot) (p := p) (d := d) (mm := mm) (P := P) (Q := Q) (M := M) (S := S) (row := row) (by first | assumption | omega | exact ⟨by omega, by omega⟩) (by first | assumption | omega | exact ⟨by omega, by omega⟩) (by first | assumption | omega | exact ⟨by omega, by omega⟩) (by first | assumption | omega | exact ⟨by omega, by omega⟩) (by first | assumption | omega | exact ⟨by omega, by omega⟩)) lk_X5_72 [1, 2, 3, 4, 8, 9, 10, 11, 12] [0, 5, 6, 7] ⟨rfl, rfl, by decide, by decide, by decide⟩ (jb := 0) rfl rfl dX5_bestWindow_18 rfl rfl ⟨by exact Nat.le_of_ble_eq_true rfl, by exact Nat.le_of_ble_eq_true rfl, rfl, rfl, by exact Nat.le_of_ble_eq_true rfl, by exact Nat.le_of_ble_eq_true rfl, by exact Nat.le_of_ble_eq_true rfl⟩ (fun w_9 h_4 => ?_)
    obtain ⟨p2_6, d2_7, mm2_8, rfl, h_4⟩ := h_4
    refine ⟨[0, 4, 5, 6, 7, 1, 2, 3, 8, 9, 10, 11, 12], [cO x 5 [.ref s, .ref ss, .int (zI has), .ref hh, .ref pd, .ref h, .ref g, .ref vw, .ref rk], cO h 1 [.ref a0, .ref a1, .ref a2, .ref a3, .ref a4, .ref a5, .int (zI (u 0)), .int (zI (u 2)), .int (zI (u 3))], cI cA a0 32 p2_6, cI cA a1 32 d2_7, cI cA a2 32 mm2_8, cI cA a3 32 sn, cI cA a4 32 bd, cI cA a5 32 ch, cO s 4 [.ref b0, .ref b1, .ref b2, .ref b3, .ref b4, .int (zI len), .int (zI lot)], cI cA b0 256 P, cI cA b1 256 Q, cI cA b2 256 M, cI cA b3 6 S], ⟨rfl, by decide⟩, ?_⟩
    obtain ⟨hp4, hd4, hm4⟩ := h_4
    have hp5 : ∀ k : Int, 0 ≤ k → k < 32 → 0 ≤ p2_6 k ∧ p2_6 k ≤ 4 := fun k h0 h1 => by rw [hp4 k h0 h1]; exact (zp_of hRP (by omega) h0 h1).2
    have hd5 : ∀ k : Int, 0 ≤ k → k < 32 → 0 ≤ d2_7 k ∧ d2_7 k ≤ 7 := fun k h0 h1 => by rw [hd4 k h0 h1]; exact (zd_of hRQ (by omega) h0 h1).2
    have hm5 : ∀ k : Int, 0 ≤ k → k < 32 → -4 ≤ mm2_8 k ∧ mm2_8 k ≤ 7 := fun k h0 h1 => by rw [hm4 k h0 h1]; exact (zk_of hRM (by omega) h0 h1).2
    have hpu : ∀ k : Int, 0 ≤ k → k < 32 → p2_6 k < u 0 := fun k h0 h1 => by have := hp5 k h0 h1; omega
    refine y_iconst C dX5_bestWindow_21 ?_
    refine y_istore_n C [(2, .int (zI 0)), (0, .ref x), (1, .int (zI row))] dX5_bestWindow_22 (by decide) rfl ?_
    refine y_iconst C dX5_bestWindow_23 ?_
    refine y_istore_n C [(3, .int (zI (-1))), (2, .int (zI 0)), (0, .ref x), (1, .int (zI row))] dX5_bestWindow_24 (by decide) rfl ?_
    refine y_iconst C dX5_bestWindow_25 ?_
    refine y_istore C [(4, .int (zI 0)), (3, .int (zI (-1))), (2, .int (zI 0)), (0, .ref x), (1, .int (zI row))] dX5_bestWindow_26 (by decide) rfl ?_
    refine y_lsub C [3, 4, 2, 1, 0] (lv' := [(0, .ref x), (1, .int (zI row)), (2, .int (zI 0)), (3, .int (zI (-1))), (4, .int (zI 0))]) rfl ?_
    suffices hL28 : ∀ (fu : Nat) (best : Int) (most : Int) (wn : Int) (sn6 : Int → Int) (win6 : Int), (0 ≤ wn ∧ wn ≤ 4) → (-1 ≤ most ∧ most ≤ 32 ∧ 0 ≤ best ∧ best ≤ 3) → ((wn = 0 ∧ best = 0 ∧ most = -1) ∨ (0 < wn ∧ 0 ≤ best ∧ best < wn ∧ most = rwnZ u row best ∧ 0 ≤ most ∧ most ≤ 32 ∧ ∀ k : Int, 0 ≤ k → k < wn → rwnZ u row k < most ∨ (rwnZ u row k = most ∧ best ≤ k))) → (20 - wn).toNat < fu → K 0 0 [cO x 5 [.ref s, .ref ss, .int (zI has), .ref hh, .ref pd, .ref h, .ref g, .ref vw, .ref rk], cO h 1 [.ref a0, .ref a1, .ref a2, .ref a3, .ref a4, .ref a5, .int (zI (u 0)), .int (zI win6), .int (zI (u 3))], cI cA a0 32 p2_6, cI cA a1 32 d2_7, cI cA a2 32 mm2_8, cI cA a3 32 sn6, cI cA a4 32 bd, cI cA a5 32 ch, cO s 4 [.ref b0, .ref b1, .ref b2, .ref b3, .ref b4, .int (zI len), .int (zI lot)], cI cA b0 256 P, cI cA b1 256 Q, cI cA b2 256 M, cI cA b3 6 S] [(0, .ref x), (1, .int (zI row)), (2, .int (zI best)), (3, .int (zI most)), (4, .int (zI wn))] 28 [] from hL28 _ 0 (-1) 0 sn (u 2) (by omega) (by omega) (by exact Or.inl ⟨rfl, rfl, rfl⟩) (Nat.lt_succ_self _)
    intro f28
    induction f28 with
    | zero => exact fun _ _ _ _ _ _ _ _ hf => absurd hf (Nat.not_lt_zero _)
    | succ f28 ih28 =>
      intro best most wn sn6 win6 hwn hmo hbst hf28
      refine y_iload C 4 dX5_bestWindow_28 rfl ?_
      refine y_iconst C dX5_bestWindow_30 ?_
      refine y_icmp_gt C 78 dX5_bestWindow_31 (by decide) ⟨⟨by omega, by omega⟩, ⟨by omega, by omega⟩⟩ (fun c_10 => ?_) (fun c_10 => ?_)
      · refine y_iload_n C 2 dX5_bestWindow_78 rfl ?_
        refine hret _ _ _ _ dX5_bestWindow_79 ⟨(u 0), win6, (u 3), p2_6, d2_7, mm2_8, sn6, bd, ch, rfl, ?_⟩
        show (best = ansBestW u row) ∧ (∀ k : Int, 0 ≤ k → k < 32 → 0 ≤ bd k ∧ bd k ≤ 32)
        refine ⟨?_, hbd⟩
        unfold ansBestW
        rw [if_pos (by omega)]
        obtain rfl : wn = 4 := by omega
        rcases hbst with z | ⟨z1, z2, z3, z4, z5, z6, z7⟩
        · omega
        · exact (bestZ_of ⟨by omega, by omega, fun k a b => by rw [← z4]; exact z7 k a (by omega)⟩).symm
      · refine y_aload_n C 0 dX5_bestWindow_34 rfl ?_
        refine y_get C fg_X5_36 0 dX5_bestWindow_35 rfl rfl ?_
        refine y_iload C 4 dX5_bestWindow_38 rfl ?_
        refine y_put C fp_X5_228 1 [cO x 5 [.ref s, .ref ss, .int (zI has), .ref hh, .ref pd, .ref h, .ref g, .ref vw, .ref rk], cO h 1 [.ref a0, .ref a1, .ref a2, .ref a3, .ref a4, .ref a5, .int (zI (u 0)), .int (zI wn), .int (zI (u 3))], cI cA a0 32 p2_6, cI cA a1 32 d2_7, cI cA a2 32 mm2_8, cI cA a3 32 sn6, cI cA a4 32 bd, cI cA a5 32 ch, cO s 4 [.ref b0, .ref b1, .ref b2, .ref b3, .ref b4, .int (zI len), .int (zI lot)], cI cA b0 256 P, cI cA b1 256 Q, cI cA b2 256 M, cI cA b3 6 S] dX5_bestWindow_40 rfl rfl rfl (by exact Nat.le_of_ble_eq_true rfl) rfl ?_
        refine y_aload_n C 0 dX5_bestWindow_43 rfl ?_
        refine y_get C fg_X5_36 0 dX5_bestWindow_44 rfl rfl ?_
        refine y_mcallv C (m_X1_watch (l := l) (D := D) (cA := cA) (cB := cB) (h := h) (a0 := a0) (a1 := a1) (a2 := a2) (a3 := a3) (a4 := a4) (a5 := a5) (per := u 0) (win := wn) (cr := u 3) (d := d2_7) (sn := sn6) (by first | assumption | omega | exact ⟨by omega, by omega⟩) (by first | assumption | omega | exact ⟨by omega, by omega⟩) (by first | assumption | omega | exact ⟨by omega, by omega⟩) (by first | assumption | omega | exact ⟨by omega, by omega⟩)) lk_X5_214 [1, 3, 5] [0, 2, 4, 6, 7, 8, 9, 10, 11, 12] ⟨rfl, rfl, by decide, by decide, by decide⟩ (jb := 0) rfl rfl dX5_bestWindow_47 rfl rfl ⟨by exact Nat.le_of_ble_eq_true rfl, by exact Nat.le_of_ble_eq_true rfl, rfl, rfl, by exact Nat.le_of_ble_eq_true rfl, by exact Nat.le_of_ble_eq_true rfl, by exact Nat.le_of_ble_eq_true rfl⟩ (fun w_14 h_11 => ?_)
        obtain ⟨sn2_13, rfl, h_11⟩ := h_11
        refine ⟨[0, 10, 1, 11, 2, 12, 3, 4, 5, 6, 7, 8, 9], [cO x 5 [.ref s, .ref ss, .int (zI has), .ref hh, .ref pd, .ref h, .ref g, .ref vw, .ref rk], cO h 1 [.ref a0, .ref a1, .ref a2, .ref a3, .ref a4, .ref a5, .int (zI (u 0)), .int (zI wn), .int (zI (u 3))], cI cA a0 32 p2_6, cI cA a1 32 d2_7, cI cA a2 32 mm2_8, cI cA a3 32 sn2_13, cI cA a4 32 bd, cI cA a5 32 ch, cO s 4 [.ref b0, .ref b1, .ref b2, .ref b3, .ref b4, .int (zI len), .int (zI lot)], cI cA b0 256 P, cI cA b1 256 Q, cI cA b2 256 M, cI cA b3 6 S], ⟨rfl, by decide⟩, ?_⟩
        have hw : ∀ k : Int, 0 ≤ k → k < 32 → sn2_13 k = seeZ (u 0) wn (u 3) (zd u row) k := fun k a b => ((h_11) k a b).trans (seeZ_congr hd4 hu.1.1)
        have hw5 : ∀ k : Int, 0 ≤ k → k < 32 → -4 ≤ sn2_13 k ∧ sn2_13 k ≤ 4 := fun k a b => by rw [hw k a b]; have := seeZ_r (u 0) wn (u 3) (zd u row) k; omega
        refine y_aload_n C 0 dX5_bestWindow_50 rfl ?_
        refine y_get C fg_X5_36 0 dX5_bestWindow_51 rfl rfl ?_
        refine y_iconst C dX5_bestWindow_54 ?_
        refine y_pcall C (m_X1_placesOfKind (l := l) (D := D) (cA := cA) (cB := cB) (h := h) (a0 := a0) (a1 := a1) (a2 := a2) (a3 := a3) (a4 := a4) (a5 := a5) (per := u 0) (win := wn) (cr := u 3) (p := p2_6) (d := d2_7) (mm := mm2_8) (sn := sn2_13) (bd := bd) (kind := 4) (by first | assumption | omega | exact ⟨by omega, by omega⟩) (by first | assumption | omega | exact ⟨by omega, by omega⟩) (by first | assumption | omega | exact ⟨by omega, by omega⟩) (by first | assumption | omega | exact ⟨by omega, by omega⟩) (by first | assumption | omega | exact ⟨by omega, by omega⟩) (by first | assumption | omega | exact ⟨by omega, by omega⟩) (by first | assumption | omega | exact ⟨by omega, by omega⟩)) lk_X5_179 [1, 2, 3, 4, 5, 6] [0, 7, 8, 9, 10, 11, 12] [0, 7, 8, 9, 10, 11, 12, 1, 2, 3, 4, 5, 6] ⟨rfl, rfl, by decide, by decide, by decide⟩ ⟨rfl, by decide⟩ rfl rfl dX5_bestWindow_55 rfl rfl ⟨by exact Nat.le_of_ble_eq_true rfl, by exact Nat.le_of_ble_eq_true rfl, rfl, rfl, by exact Nat.le_of_ble_eq_true rfl, by exact Nat.le_of_ble_eq_true rfl, by exact Nat.le_of_ble_eq_true rfl⟩ (fun r_16 h_15 => ?_)
        have hv : r_16 = rwnZ u row wn ∧ 0 ≤ r_16 ∧ r_16 ≤ 32 := ⟨by rw [(h_15).1, knd4]; exact zcnt_congr (fun k a b => by rw [hw k a b, hp4 k a b]), (h_15).2⟩
        refine y_istore C [(5, .int (zI r_16)), (0, .ref x), (1, .int (zI row)), (2, .int (zI best)), (3, .int (zI most)), (4, .int (zI wn))] dX5_bestWindow_58 (by decide) rfl ?_
        refine y_iload C 0 dX5_bestWindow_60 rfl ?_
        refine y_iload_n C 4 dX5_bestWindow_62 rfl ?_
        refine y_icmp_le C 72 dX5_bestWindow_63 (by decide) ⟨⟨by omega, by omega⟩, ⟨by omega, by omega⟩⟩ (fun c_17 => ?_) (fun c_17 => ?_)
        · refine y_iinc C 5 [(4, .int (zI (wn + 1))), (5, .int (zI r_16)), (0, .ref x), (1, .int (zI row)), (2, .int (zI best)), (3, .int (zI most))] dX5_bestWindow_72 rfl (by decide) rfl ?_
          refine y_goto C 28 dX5_bestWindow_75 (by decide) ?_
          refine y_lsub C [2, 3, 4, 5, 0] (lv' := [(0, .ref x), (1, .int (zI row)), (2, .int (zI best)), (3, .int (zI most)), (4, .int (zI (wn + 1)))]) rfl ?_
          exact ih28 best most (wn + 1) sn2_13 wn (by omega) (by omega) (by rcases hbst with ⟨z1, z2, z3⟩ | ⟨z1, z2, z3, z4, z5, z6, z7⟩; (first | (exfalso; omega) | exact Or.inr ⟨by omega, by omega, by omega, hv.1, by omega, by omega, fun k a b => by obtain rfl : k = wn := (by omega); exact Or.inr ⟨hv.1.symm, Int.le_refl _⟩⟩); (first | exact Or.inr ⟨by omega, by omega, by omega, hv.1, by omega, by omega, fun k a b => by rcases (show k < wn ∨ k = wn from by omega) with e | e; (have := z7 k a e; omega); (subst e; exact Or.inr ⟨hv.1.symm, Int.le_refl _⟩)⟩ | exact Or.inr ⟨by omega, by omega, by omega, z4, by omega, by omega, fun k a b => by rcases (show k < wn ∨ k = wn from by omega) with e | e; (exact z7 k a e); (subst e; have := hv.1; omega)⟩)) (by omega)
        · refine y_iload C 0 dX5_bestWindow_66 rfl ?_
          refine y_istore_n C [(3, .int (zI r_16)), (5, .int (zI r_16)), (0, .ref x), (1, .int (zI row)), (2, .int (zI best)), (4, .int (zI wn))] dX5_bestWindow_68 (by decide) rfl ?_
          refine y_iload C 5 dX5_bestWindow_69 rfl ?_
          refine y_istore_n C [(2, .int (zI wn)), (3, .int (zI r_16)), (5, .int (zI r_16)), (0, .ref x), (1, .int (zI row)), (4, .int (zI wn))] dX5_bestWindow_71 (by decide) rfl ?_
          refine y_iinc C 5 [(4, .int (zI (wn + 1))), (2, .int (zI wn)), (3, .int (zI r_16)), (5, .int (zI r_16)), (0, .ref x), (1, .int (zI row))] dX5_bestWindow_72 rfl (by decide) rfl ?_
          refine y_goto C 28 dX5_bestWindow_75 (by decide) ?_
          refine y_lsub C [4, 5, 1, 2, 0] (lv' := [(0, .ref x), (1, .int (zI row)), (2, .int (zI wn)), (3, .int (zI r_16)), (4, .int (zI (wn + 1)))]) rfl ?_
          exact ih28 wn r_16 (wn + 1) sn2_13 wn (by omega) (by omega) (by rcases hbst with ⟨z1, z2, z3⟩ | ⟨z1, z2, z3, z4, z5, z6, z7⟩; (first | (exfalso; omega) | exact Or.inr ⟨by omega, by omega, by omega, hv.1, by omega, by omega, fun k a b => by obtain rfl : k = wn := (by omega); exact Or.inr ⟨hv.1.symm, Int.le_refl _⟩⟩); (first | exact Or.inr ⟨by omega, by omega, by omega, hv.1, by omega, by omega, fun k a b => by rcases (show k < wn ∨ k = wn from by omega) with e | e; (have := z7 k a e; omega); (subst e; exact Or.inr ⟨hv.1.symm, Int.le_refl _⟩)⟩ | exact Or.inr ⟨by omega, by omega, by omega, z4, by omega, by omega, fun k a b => by rcases (show k < wn ∨ k = wn from by omega) with e | e; (exact z7 k a e); (subst e; have := hv.1; omega)⟩)) (by omega)
  · refine y_iconst C dX5_bestWindow_7 ?_
    refine hret _ _ _ _ dX5_bestWindow_8 ⟨per, win, cr, p, d, mm, sn, bd, ch, rfl, ?_⟩
    show ((-1) = ansBestW u row) ∧ (∀ k : Int, 0 ≤ k → k < 32 → 0 ≤ bd k ∧ bd k ≤ 32)
    refine ⟨?_, hbd⟩
    unfold ansBestW
    rw [if_neg (by omega)]
