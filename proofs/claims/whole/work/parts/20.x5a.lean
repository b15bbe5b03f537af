set_option maxHeartbeats 4000000 in
set_option maxRecDepth 100000 in
theorem m_X5_rightPlaces {l : Launch} {D : va_G} {cA cB : ClassId} {x ss hh pd g vw rk : Nat} {has : Int} {h a0 a1 a2 a3 a4 a5 : Nat} {per win cr : Int} {p d mm sn bd ch : Int → Int} {s b0 b1 b2 b3 b4 : Nat} {len lot : Int} {u P Q M S T : Int → Int} {row : Int} (hrow : 0 ≤ row ∧ row < 8) (hrel : Rel u S P Q M T len lot) : MI l yX5_rightPlaces cX5_rightPlaces 2 .int { frames := 5, cells := 0, slots := 0, locals := 111 } D (zT cA cB) [.ref x, .int (zI row)] [cO x 5 [.ref s, .ref ss, .int (zI has), .ref hh, .ref pd, .ref h, .ref g, .ref vw, .ref rk], cO h 1 [.ref a0, .ref a1, .ref a2, .ref a3, .ref a4, .ref a5, .int (zI per), .int (zI win), .int (zI cr)], cI cA a0 32 p, cI cA a1 32 d, cI cA a2 32 mm, cI cA a3 32 sn, cI cA a4 32 bd, cI cA a5 32 ch, cO s 4 [.ref b0, .ref b1, .ref b2, .ref b3, .ref b4, .int (zI len), .int (zI lot)], cI cA b0 256 P, cI cA b1 256 Q, cI cA b2 256 M, cI cA b3 6 S] (fun r w => ∃ (perx : Int), ∃ (winx : Int), ∃ (crx : Int), ∃ (px : Int → Int), ∃ (dx : Int → Int), ∃ (mmx : Int → Int), ∃ (snx : Int → Int), ∃ (bdx : Int → Int), ∃ (chx : Int → Int), w = [cO x 5 [.ref s, .ref ss, .int (zI has), .ref hh, .ref pd, .ref h, .ref g, .ref vw, .ref rk], cO h 1 [.ref a0, .ref a1, .ref a2, .ref a3, .ref a4, .ref a5, .int (zI perx), .int (zI winx), .int (zI crx)], cI cA a0 32 px, cI cA a1 32 dx, cI cA a2 32 mmx, cI cA a3 32 snx, cI cA a4 32 bdx, cI cA a5 32 chx, cO s 4 [.ref b0, .ref b1, .ref b2, .ref b3, .ref b4, .int (zI len), .int (zI lot)], cI cA b0 256 P, cI cA b1 256 Q, cI cA b2 256 M, cI cA b3 6 S] ∧ (r = kndR u row 4) ∧ (0 ≤ r ∧ r ≤ 32) ∧ (∀ k : Int, 0 ≤ k → k < 32 → 0 ≤ bdx k ∧ bdx k ≤ 32)) := by
  refine MI.of RX5 ⟨rfl, by decide +kernel⟩ (Or.inl rfl) (Nat.le_of_ble_eq_true rfl) (fun h => by cases h) ?_
  intro K C hret
  change K 0 0 _ [(0, .ref x), (1, .int (zI row))] 0 []
  have hRS := hrel.S
  have hRP := hrel.P
  have hRQ := hrel.Q
  have hRM := hrel.M
  have hu := hRS.2
  refine y_aload_n C 0 dX5_rightPlaces_0 rfl ?_
  refine y_get C fg_X5_36 0 dX5_rightPlaces_1 rfl rfl ?_
  refine y_aload_n C 0 dX5_rightPlaces_4 rfl ?_
  refine y_get C fg_X5_12 0 dX5_rightPlaces_5 rfl rfl ?_
  refine y_iload_n C 1 dX5_rightPlaces_8 rfl ?_
  refine y_mcallv C (m_X1_study (l := l) (D := D) (cA := cA) (cB := cB) (h := h) (a0 := a0) (a1 := a1) (a2 := a2) (a3 := a3) (a4 := a4) (a5 := a5) (per := per) (win := win) (cr := cr) (s := s) (b0 := b0) (b1 := b1) (b2 := b2) (b3 := b3) (b4 := b4) (len := len) (lot := lot) (p := p) (d := d) (mm := mm) (sn := sn) (bd := bd) (ch := ch) (P := P) (Q := Q) (M := M) (S := S) (row := row) (by first | assumption | omega | exact ⟨by omega, by omega⟩) (by first | assumption | omega | exact ⟨by omega, by omega⟩) (by first | assumption | omega | exact ⟨by omega, by omega⟩) (by first | assumption | omega | exact ⟨by omega, by omega⟩) (by first | assumption | omega | exact ⟨by omega, by omega⟩)) lk_X5_146 [1, 2, 3, 4, 5, 6, 7, 8, 9, 10, 11, 12] [0] ⟨rfl, rfl, by decide, by decide, by decide⟩ (jb := 0) rfl rfl dX5_rightPlaces_9 rfl rfl ⟨by exact Nat.le_of_ble_eq_true rfl, by exact Nat.le_of_ble_eq_true rfl, rfl, rfl, by exact Nat.le_of_ble_eq_true rfl, by exact Nat.le_of_ble_eq_true rfl, by exact Nat.le_of_ble_eq_true rfl⟩ (fun w_9 h_1 => ?_)
  obtain ⟨p4_3, d4_4, mm4_5, sn4_6, bd4_7, ch4_8, rfl, h_1⟩ := h_1
  refine ⟨[0, 1, 2, 3, 4, 5, 6, 7, 8, 9, 10, 11, 12], [cO x 5 [.ref s, .ref ss, .int (zI has), .ref hh, .ref pd, .ref h, .ref g, .ref vw, .ref rk], cO h 1 [.ref a0, .ref a1, .ref a2, .ref a3, .ref a4, .ref a5, .int (zI (u 0)), .int (zI (u 2)), .int (zI (u 3))], cI cA a0 32 p4_3, cI cA a1 32 d4_4, cI cA a2 32 mm4_5, cI cA a3 32 sn4_6, cI cA a4 32 bd4_7, cI cA a5 32 ch4_8, cO s 4 [.ref b0, .ref b1, .ref b2, .ref b3, .ref b4, .int (zI len), .int (zI lot)], cI cA b0 256 P, cI cA b1 256 Q, cI cA b2 256 M, cI cA b3 6 S], ⟨rfl, by decide⟩, ?_⟩
  obtain ⟨hp4, hd4, hm4, hs4, hb4, hc4⟩ := h_1
  have hp5 : ∀ k : Int, 0 ≤ k → k < 32 → 0 ≤ p4_3 k ∧ p4_3 k ≤ 4 := fun k h0 h1 => by rw [hp4 k h0 h1]; exact (zp_of hRP (by omega) h0 h1).2
  have hd5 : ∀ k : Int, 0 ≤ k → k < 32 → 0 ≤ d4_4 k ∧ d4_4 k ≤ 7 := fun k h0 h1 => by rw [hd4 k h0 h1]; exact (zd_of hRQ (by omega) h0 h1).2
  have hm5 : ∀ k : Int, 0 ≤ k → k < 32 → -4 ≤ mm4_5 k ∧ mm4_5 k ≤ 7 := fun k h0 h1 => by rw [hm4 k h0 h1]; exact (zk_of hRM (by omega) h0 h1).2
  have hs5 : ∀ k : Int, 0 ≤ k → k < 32 → -4 ≤ sn4_6 k ∧ sn4_6 k ≤ 4 := fun k h0 h1 => by rw [hs4 k h0 h1]; have := seeR_r u row k; omega
  have hb5 : ∀ k : Int, 0 ≤ k → k < 32 → 0 ≤ bd4_7 k ∧ bd4_7 k ≤ 32 := fun k h0 h1 => by rw [hb4 k h0 h1]; exact bndZ_r _ _ _
  have hpu : ∀ k : Int, 0 ≤ k → k < 32 → p4_3 k < u 0 := fun k h0 h1 => by have := hp5 k h0 h1; omega
  have hc5 : ∀ k : Int, 0 ≤ k → k < 32 → 0 ≤ ch4_8 k ∧ ch4_8 k ≤ 31 := fun k h0 h1 => by rw [hc4 k h0 h1]; have := chZ_r (per := u 0) (p := zp u row) (fun j a b => by rw [← hp4 j a b]; exact hpu j a b) ⟨h0, h1⟩; unfold chnR; omega
  refine y_aload_n C 0 dX5_rightPlaces_12 rfl ?_
  refine y_get C fg_X5_36 0 dX5_rightPlaces_13 rfl rfl ?_
  refine y_iconst C dX5_rightPlaces_16 ?_
  refine y_pcall C (m_X1_placesOfKind (l := l) (D := D) (cA := cA) (cB := cB) (h := h) (a0 := a0) (a1 := a1) (a2 := a2) (a3 := a3) (a4 := a4) (a5 := a5) (per := u 0) (win := u 2) (cr := u 3) (p := p4_3) (d := d4_4) (mm := mm4_5) (sn := sn4_6) (bd := bd4_7) (kind := 4) (by first | assumption | omega | exact ⟨by omega, by omega⟩) (by first | assumption | omega | exact ⟨by omega, by omega⟩) (by first | assumption | omega | exact ⟨by omega, by omega⟩) (by first | assumption | omega | exact ⟨by omega, by omega⟩) (by first | assumption | omega | exact ⟨by omega, by omega⟩) (by first | assumption | omega | exact ⟨by omega, by omega⟩) (by first | assumption | omega | exact ⟨by omega, by omega⟩)) lk_X5_179 [1, 2, 3, 4, 5, 6] [0, 7, 8, 9, 10, 11, 12] [0, 7, 8, 9, 10, 11, 12, 1, 2, 3, 4, 5, 6] ⟨rfl, rfl, by decide, by decide, by decide⟩ ⟨rfl, by decide⟩ rfl rfl dX5_rightPlaces_17 rfl rfl ⟨by exact Nat.le_of_ble_eq_true rfl, by exact Nat.le_of_ble_eq_true rfl, rfl, rfl, by exact Nat.le_of_ble_eq_true rfl, by exact Nat.le_of_ble_eq_true rfl, by exact Nat.le_of_ble_eq_true rfl⟩ (fun r_11 h_10 => ?_)
  have hk := h_10
  refine hret _ _ _ _ dX5_rightPlaces_20 ⟨(u 0), (u 2), (u 3), p4_3, d4_4, mm4_5, sn4_6, bd4_7, ch4_8, rfl, ?_⟩
  show (r_11 = kndR u row 4) ∧ (0 ≤ r_11 ∧ r_11 ≤ 32) ∧ (∀ k : Int, 0 ≤ k → k < 32 → 0 ≤ bd4_7 k ∧ bd4_7 k ≤ 32)
  exact ⟨by rw [hk.1]; exact kndR_of hp4 hd4 hm4 hs4 hb4 hpu, hk.2, hb5⟩

set_option maxHeartbeats 4000000 in
set_option maxRecDepth 100000 in
theorem m_X5_allPlacesOfKind {l : Launch} {D : va_G} {cA cB : ClassId} {x ss hh pd g vw rk : Nat} {has : Int} {h a0 a1 a2 a3 a4 a5 : Nat} {per win cr : Int} {p d mm sn bd ch : Int → Int} {s b0 b1 b2 b3 b4 : Nat} {len lot : Int} {u P Q M S T : Int → Int} {kind : Int} (hkind : 0 ≤ kind ∧ kind ≤ 7) (hbd : ∀ k : Int, 0 ≤ k → k < 32 → 0 ≤ bd k ∧ bd k ≤ 32) (hrel : Rel u S P Q M T len lot) : MI l yX5_allPlacesOfKind cX5_allPlacesOfKind 4 .int { frames := 5, cells := 0, slots := 0, locals := 111 } D (zT cA cB) [.ref x, .int (zI kind)] [cO x 5 [.ref s, .ref ss, .int (zI has), .ref hh, .ref pd, .ref h, .ref g, .ref vw, .ref rk], cO h 1 [.ref a0, .ref a1, .ref a2, .ref a3, .ref a4, .ref a5, .int (zI per), .int (zI win), .int (zI cr)], cI cA a0 32 p, cI cA a1 32 d, cI cA a2 32 mm, cI cA a3 32 sn, cI cA a4 32 bd, cI cA a5 32 ch, cO s 4 [.ref b0, .ref b1, .ref b2, .ref b3, .ref b4, .int (zI len), .int (zI lot)], cI cA b0 256 P, cI cA b1 256 Q, cI cA b2 256 M, cI cA b3 6 S] (fun r w => ∃ (perx : Int), ∃ (winx : Int), ∃ (crx : Int), ∃ (px : Int → Int), ∃ (dx : Int → Int), ∃ (mmx : Int → Int), ∃ (snx : Int → Int), ∃ (bdx : Int → Int), ∃ (chx : Int → Int), w = [cO x 5 [.ref s, .ref ss, .int (zI has), .ref hh, .ref pd, .ref h, .ref g, .ref vw, .ref rk], cO h 1 [.ref a0, .ref a1, .ref a2, .ref a3, .ref a4, .ref a5, .int (zI perx), .int (zI winx), .int (zI crx)], cI cA a0 32 px, cI cA a1 32 dx, cI cA a2 32 mmx, cI cA a3 32 snx, cI cA a4 32 bdx, cI cA a5 32 chx, cO s 4 [.ref b0, .ref b1, .ref b2, .ref b3, .ref b4, .int (zI len), .int (zI lot)], cI cA b0 256 P, cI cA b1 256 Q, cI cA b2 256 M, cI cA b3 6 S] ∧ (r = sumZ (fun row => kndR u row kind) 8) ∧ (0 ≤ r ∧ r ≤ 256) ∧ (∀ k : Int, 0 ≤ k → k < 32 → 0 ≤ bdx k ∧ bdx k ≤ 32)) := by
  refine MI.of RX5 ⟨rfl, by decide +kernel⟩ (Or.inl rfl) (Nat.le_of_ble_eq_true rfl) (fun h => by cases h) ?_
  intro K C hret
  change K 0 0 _ [(0, .ref x), (1, .int (zI kind))] 0 []
  have hRS := hrel.S
  have hRP := hrel.P
  have hRQ := hrel.Q
  have hRM := hrel.M
  have hu := hRS.2
  refine y_iconst C dX5_allPlacesOfKind_0 ?_
  refine y_istore_n C [(2, .int (zI 0)), (0, .ref x), (1, .int (zI kind))] dX5_allPlacesOfKind_1 (by decide) rfl ?_
  refine y_iconst C dX5_allPlacesOfKind_2 ?_
  refine y_istore_n C [(3, .int (zI 0)), (2, .int (zI 0)), (0, .ref x), (1, .int (zI kind))] dX5_allPlacesOfKind_3 (by decide) rfl ?_
  refine y_lsub C [2, 3, 1, 0] (lv' := [(0, .ref x), (1, .int (zI kind)), (2, .int (zI 0)), (3, .int (zI 0))]) rfl ?_
  suffices hL4 : ∀ (fu : Nat) (n : Int) (row : Int) (p6 : Int → Int) (d6 : Int → Int) (mm6 : Int → Int) (sn6 : Int → Int) (bd6 : Int → Int) (ch6 : Int → Int) (per6 : Int) (win6 : Int) (cr6 : Int), (0 ≤ row ∧ row ≤ 8) → (n = sumZ (fun row => kndR u row kind) row ∧ 0 ≤ n ∧ n ≤ 32 * row) → (∀ k : Int, 0 ≤ k → k < 32 → 0 ≤ bd6 k ∧ bd6 k ≤ 32) → (8 - row).toNat < fu → K 0 0 [cO x 5 [.ref s, .ref ss, .int (zI has), .ref hh, .ref pd, .ref h, .ref g, .ref vw, .ref rk], cO h 1 [.ref a0, .ref a1, .ref a2, .ref a3, .ref a4, .ref a5, .int (zI per6), .int (zI win6), .int (zI cr6)], cI cA a0 32 p6, cI cA a1 32 d6, cI cA a2 32 mm6, cI cA a3 32 sn6, cI cA a4 32 bd6, cI cA a5 32 ch6, cO s 4 [.ref b0, .ref b1, .ref b2, .ref b3, .ref b4, .int (zI len), .int (zI lot)], cI cA b0 256 P, cI cA b1 256 Q, cI cA b2 256 M, cI cA b3 6 S] [(0, .ref x), (1, .int (zI kind)), (2, .int (zI n)), (3, .int (zI row))] 4 [] from hL4 _ 0 0 p d mm sn bd ch per win cr (by omega) (by exact ⟨rfl, by omega, by omega⟩) (by exact hbd) (Nat.lt_succ_self _)
  intro f4
  induction f4 with
  | zero => exact fun _ _ _ _ _ _ _ _ _ _ _ _ _ _ hf => absurd hf (Nat.not_lt_zero _)
  | succ f4 ih4 =>
    intro n row p6 d6 mm6 sn6 bd6 ch6 per6 win6 cr6 hrow hn hb6 hf4
    refine y_iload_n C 3 dX5_allPlacesOfKind_4 rfl ?_
    refine y_bipush C dX5_allPlacesOfKind_5 (by decide +kernel) ?_
    refine y_icmp_ge C 39 dX5_allPlacesOfKind_7 (by decide) ⟨⟨by omega, by omega⟩, ⟨by omega, by omega⟩⟩ (fun c_1 => ?_) (fun c_1 => ?_)
    · refine y_iload_n C 2 dX5_allPlacesOfKind_39 rfl ?_
      refine hret _ _ _ _ dX5_allPlacesOfKind_40 ⟨per6, win6, cr6, p6, d6, mm6, sn6, bd6, ch6, rfl, ?_⟩
      show (n = sumZ (fun row => kndR u row kind) 8) ∧ (0 ≤ n ∧ n ≤ 256) ∧ (∀ k : Int, 0 ≤ k → k < 32 → 0 ≤ bd6 k ∧ bd6 k ≤ 32)
      obtain rfl : row = 8 := by omega
      exact ⟨hn.1, by omega, hb6⟩
    · refine y_aload_n C 0 dX5_allPlacesOfKind_10 rfl ?_
      refine y_get C fg_X5_36 0 dX5_allPlacesOfKind_11 rfl rfl ?_
      refine y_aload_n C 0 dX5_allPlacesOfKind_14 rfl ?_
      refine y_get C fg_X5_12 0 dX5_allPlacesOfKind_15 rfl rfl ?_
      refine y_iload_n C 3 dX5_allPlacesOfKind_18 rfl ?_
      refine y_mcallv C (m_X1_study (l := l) (D := D) (cA := cA) (cB := cB) (h := h) (a0 := a0) (a1 := a1) (a2 := a2) (a3 := a3) (a4 := a4) (a5 := a5) (per := per6) (win := win6) (cr := cr6) (s := s) (b0 := b0) (b1 := b1) (b2 := b2) (b3 := b3) (b4 := b4) (len := len) (lot := lot) (p := p6) (d := d6) (mm := mm6) (sn := sn6) (bd := bd6) (ch := ch6) (P := P) (Q := Q) (M := M) (S := S) (row := row) (by first | assumption | omega | exact ⟨by omega, by omega⟩) (by first | assumption | omega | exact ⟨by omega, by omega⟩) (by first | assumption | omega | exact ⟨by omega, by omega⟩) (by first | assumption | omega | exact ⟨by omega, by omega⟩) (by first | assumption | omega | exact ⟨by omega, by omega⟩)) lk_X5_146 [1, 2, 3, 4, 5, 6, 7, 8, 9, 10, 11, 12] [0] ⟨rfl, rfl, by decide, by decide, by decide⟩ (jb := 0) rfl rfl dX5_allPlacesOfKind_19 rfl rfl ⟨by exact Nat.le_of_ble_eq_true rfl, by exact Nat.le_of_ble_eq_true rfl, rfl, rfl, by exact Nat.le_of_ble_eq_true rfl, by exact Nat.le_of_ble_eq_true rfl, by exact Nat.le_of_ble_eq_true rfl⟩ (fun w_10 h_2 => ?_)
      obtain ⟨p4_4, d4_5, mm4_6, sn4_7, bd4_8, ch4_9, rfl, h_2⟩ := h_2
      refine ⟨[0, 1, 2, 3, 4, 5, 6, 7, 8, 9, 10, 11, 12], [cO x 5 [.ref s, .ref ss, .int (zI has), .ref hh, .ref pd, .ref h, .ref g, .ref vw, .ref rk], cO h 1 [.ref a0, .ref a1, .ref a2, .ref a3, .ref a4, .ref a5, .int (zI (u 0)), .int (zI (u 2)), .int (zI (u 3))], cI cA a0 32 p4_4, cI cA a1 32 d4_5, cI cA a2 32 mm4_6, cI cA a3 32 sn4_7, cI cA a4 32 bd4_8, cI cA a5 32 ch4_9, cO s 4 [.ref b0, .ref b1, .ref b2, .ref b3, .ref b4, .int (zI len), .int (zI lot)], cI cA b0 256 P, cI cA b1 256 Q, cI cA b2 256 M, cI cA b3 6 S], ⟨rfl, by decide⟩, ?_⟩
      obtain ⟨hp4, hd4, hm4, hs4, hb4, hc4⟩ := h_2
      have hp5 : ∀ k : Int, 0 ≤ k → k < 32 → 0 ≤ p4_4 k ∧ p4_4 k ≤ 4 := fun k h0 h1 => by rw [hp4 k h0 h1]; exact (zp_of hRP (by omega) h0 h1).2
      have hd5 : ∀ k : Int, 0 ≤ k → k < 32 → 0 ≤ d4_5 k ∧ d4_5 k ≤ 7 := fun k h0 h1 => by rw [hd4 k h0 h1]; exact (zd_of hRQ (by omega) h0 h1).2
      have hm5 : ∀ k : Int, 0 ≤ k → k < 32 → -4 ≤ mm4_6 k ∧ mm4_6 k ≤ 7 := fun k h0 h1 => by rw [hm4 k h0 h1]; exact (zk_of hRM (by omega) h0 h1).2
      have hs5 : ∀ k : Int, 0 ≤ k → k < 32 → -4 ≤ sn4_7 k ∧ sn4_7 k ≤ 4 := fun k h0 h1 => by rw [hs4 k h0 h1]; have := seeR_r u row k; omega
      have hb5 : ∀ k : Int, 0 ≤ k → k < 32 → 0 ≤ bd4_8 k ∧ bd4_8 k ≤ 32 := fun k h0 h1 => by rw [hb4 k h0 h1]; exact bndZ_r _ _ _
      have hpu : ∀ k : Int, 0 ≤ k → k < 32 → p4_4 k < u 0 := fun k h0 h1 => by have := hp5 k h0 h1; omega
      have hc5 : ∀ k : Int, 0 ≤ k → k < 32 → 0 ≤ ch4_9 k ∧ ch4_9 k ≤ 31 := fun k h0 h1 => by rw [hc4 k h0 h1]; have := chZ_r (per := u 0) (p := zp u row) (fun j a b => by rw [← hp4 j a b]; exact hpu j a b) ⟨h0, h1⟩; unfold chnR; omega
      refine y_iload_n C 2 dX5_allPlacesOfKind_22 rfl ?_
      refine y_aload_n C 0 dX5_allPlacesOfKind_23 rfl ?_
      refine y_get C fg_X5_36 0 dX5_allPlacesOfKind_24 rfl rfl ?_
      refine y_iload_n C 1 dX5_allPlacesOfKind_27 rfl ?_
      refine y_pcall C (m_X1_placesOfKind (l := l) (D := D) (cA := cA) (cB := cB) (h := h) (a0 := a0) (a1 := a1) (a2 := a2) (a3 := a3) (a4 := a4) (a5 := a5) (per := u 0) (win := u 2) (cr := u 3) (p := p4_4) (d := d4_5) (mm := mm4_6) (sn := sn4_7) (bd := bd4_8) (kind := kind) (by first | assumption | omega | exact ⟨by omega, by omega⟩) (by first | assumption | omega | exact ⟨by omega, by omega⟩) (by first | assumption | omega | exact ⟨by omega, by omega⟩) (by first | assumption | omega | exact ⟨by omega, by omega⟩) (by first | assumption | omega | exact ⟨by omega, by omega⟩) (by first | assumption | omega | exact ⟨by omega, by omega⟩) (by first | assumption | omega | exact ⟨by omega, by omega⟩)) lk_X5_179 [1, 2, 3, 4, 5, 6] [0, 7, 8, 9, 10, 11, 12] [0, 7, 8, 9, 10, 11, 12, 1, 2, 3, 4, 5, 6] ⟨rfl, rfl, by decide, by decide, by decide⟩ ⟨rfl, by decide⟩ rfl rfl dX5_allPlacesOfKind_28 rfl rfl ⟨by exact Nat.le_of_ble_eq_true rfl, by exact Nat.le_of_ble_eq_true rfl, rfl, rfl, by exact Nat.le_of_ble_eq_true rfl, by exact Nat.le_of_ble_eq_true rfl, by exact Nat.le_of_ble_eq_true rfl⟩ (fun r_12 h_11 => ?_)
      have hk : r_12 = kndR u row kind := (h_11).1.trans (kndR_of hp4 hd4 hm4 hs4 hb4 hpu)
      have hkr := (h_11).2
      refine y_iadd C dX5_allPlacesOfKind_31 ?_
      refine y_istore_n C [(2, .int (zI (n + r_12))), (0, .ref x), (1, .int (zI kind)), (3, .int (zI row))] dX5_allPlacesOfKind_32 (by decide) rfl ?_
      refine y_iinc C 3 [(3, .int (zI (row + 1))), (2, .int (zI (n + r_12))), (0, .ref x), (1, .int (zI kind))] dX5_allPlacesOfKind_33 rfl (by decide) rfl ?_
      refine y_goto C 4 dX5_allPlacesOfKind_36 (by decide) ?_
      refine y_lsub C [2, 3, 1, 0] (lv' := [(0, .ref x), (1, .int (zI kind)), (2, .int (zI (n + r_12))), (3, .int (zI (row + 1)))]) rfl ?_
      exact ih4 (n + r_12) (row + 1) p4_4 d4_5 mm4_6 sn4_7 bd4_8 ch4_9 (u 0) (u 2) (u 3) (by omega) (by refine ⟨?_, by omega, by omega⟩; rw [sumZ_s _ (by omega), ← hn.1, ← hk]) (by exact hb5) (by omega)

set_option maxHeartbeats 4000000 in
set_option maxRecDepth 100000 in
theorem m_X5_isSameView {l : Launch} {D : va_G} {cA cB : ClassId} {x ss hh pd g vw rk : Nat} {has : Int} {s h : Nat} {vi : Int → Int} {row q : Int} (hrow : 0 ≤ row ∧ row < 8) (hq : 0 ≤ q ∧ q < 8) (hvi : ∀ k : Int, 0 ≤ k → k < 256 → -4 ≤ vi k ∧ vi k ≤ 4) : MI l yX5_isSameView cX5_isSameView 4 .boolean { frames := 1, cells := 0, slots := 0, locals := 21 } D (zT cA cB) [.ref x, .int (zI row), .int (zI q)] [cO x 5 [.ref s, .ref ss, .int (zI has), .ref hh, .ref pd, .ref h, .ref g, .ref vw, .ref rk], cI cA vw 256 vi] (fun r w => w = [cO x 5 [.ref s, .ref ss, .int (zI has), .ref hh, .ref pd, .ref h, .ref g, .ref vw, .ref rk], cI cA vw 256 vi] ∧ ((r = 1 ∧ (∀ k : Int, 0 ≤ k → k < 32 → vi (row * 32 + k) = vi (q * 32 + k))) ∨ (r = 0 ∧ ¬ (∀ k : Int, 0 ≤ k → k < 32 → vi (row * 32 + k) = vi (q * 32 + k))))) := by
  refine MI.of RX5 ⟨rfl, by decide +kernel⟩ (Or.inr rfl) (Nat.le_of_ble_eq_true rfl) (fun _ r w h => by rcases h.2 with h | h; exact Or.inr h.1; exact Or.inl h.1) ?_
  intro K C hret
  change K 0 0 _ [(0, .ref x), (1, .int (zI row)), (2, .int (zI q))] 0 []
  refine y_iconst C dX5_isSameView_0 ?_
  refine y_istore_n C [(3, .int (zI 0)), (0, .ref x), (1, .int (zI row)), (2, .int (zI q))] dX5_isSameView_1 (by decide) rfl ?_
  refine y_lsub C [1, 2, 3, 0] (lv' := [(0, .ref x), (1, .int (zI row)), (2, .int (zI q)), (3, .int (zI 0))]) rfl ?_
  suffices hL2 : ∀ (fu : Nat) (c : Int), (0 ≤ c ∧ c ≤ 32) → (∀ k : Int, 0 ≤ k → k < c → vi (row * 32 + k) = vi (q * 32 + k)) → (32 - c).toNat < fu → K 0 0 [cO x 5 [.ref s, .ref ss, .int (zI has), .ref hh, .ref pd, .ref h, .ref g, .ref vw, .ref rk], cI cA vw 256 vi] [(0, .ref x), (1, .int (zI row)), (2, .int (zI q)), (3, .int (zI c))] 2 [] from hL2 _ 0 (by omega) (by intro k h1 h2; omega) (Nat.lt_succ_self _)
  intro f2
  induction f2 with
  | zero => exact fun _ _ _ hf => absurd hf (Nat.not_lt_zero _)
  | succ f2 ih2 =>
    intro c hc hs hf2
    refine y_iload_n C 3 dX5_isSameView_2 rfl ?_
    refine y_bipush C dX5_isSameView_3 (by decide +kernel) ?_
    refine y_icmp_ge C 39 dX5_isSameView_5 (by decide) ⟨⟨by omega, by omega⟩, ⟨by omega, by omega⟩⟩ (fun c_1 => ?_) (fun c_1 => ?_)
    · refine y_iconst C dX5_isSameView_39 ?_
      refine hret _ _ _ _ dX5_isSameView_40 ⟨rfl, ?_⟩
      show ((1 = 1 ∧ (∀ k : Int, 0 ≤ k → k < 32 → vi (row * 32 + k) = vi (q * 32 + k))) ∨ (1 = 0 ∧ ¬ (∀ k : Int, 0 ≤ k → k < 32 → vi (row * 32 + k) = vi (q * 32 + k))))
      exact Or.inl ⟨rfl, fun k h1 h2 => hs k h1 (by omega)⟩
    · refine y_aload_n C 0 dX5_isSameView_8 rfl ?_
      refine y_get C fg_X5_43 0 dX5_isSameView_9 rfl rfl ?_
      refine y_iload_n C 1 dX5_isSameView_12 rfl ?_
      refine y_iload_n C 3 dX5_isSameView_13 rfl ?_
      refine y_pcalls C (m_X5_placeOf (l := l) (D := D) (cA := cA) (cB := cB) (x := row) (y := c) ) lk_X5_80 [] [0, 1] [0, 1] ⟨rfl, rfl, by decide, by decide, by decide⟩ ⟨rfl, by decide⟩ dX5_isSameView_14 rfl rfl ⟨by exact Nat.le_of_ble_eq_true rfl, by exact Nat.le_of_ble_eq_true rfl, rfl, rfl, by exact Nat.le_of_ble_eq_true rfl, by exact Nat.le_of_ble_eq_true rfl, by exact Nat.le_of_ble_eq_true rfl⟩ (fun r_3 h_2 => ?_)
      have hA := h_2
      refine y_iald C 1 0 dX5_isSameView_17 rfl rfl ⟨by omega, by omega, by omega⟩ ?_
      have g_4 := hvi r_3 (by omega) (by omega)
      refine y_aload_n C 0 dX5_isSameView_18 rfl ?_
      refine y_get C fg_X5_43 0 dX5_isSameView_19 rfl rfl ?_
      refine y_iload_n C 2 dX5_isSameView_22 rfl ?_
      refine y_iload_n C 3 dX5_isSameView_23 rfl ?_
      refine y_pcalls C (m_X5_placeOf (l := l) (D := D) (cA := cA) (cB := cB) (x := q) (y := c) ) lk_X5_80 [] [0, 1] [0, 1] ⟨rfl, rfl, by decide, by decide, by decide⟩ ⟨rfl, by decide⟩ dX5_isSameView_24 rfl rfl ⟨by exact Nat.le_of_ble_eq_true rfl, by exact Nat.le_of_ble_eq_true rfl, rfl, rfl, by exact Nat.le_of_ble_eq_true rfl, by exact Nat.le_of_ble_eq_true rfl, by exact Nat.le_of_ble_eq_true rfl⟩ (fun r_6 h_5 => ?_)
      have hB := h_5
      refine y_iald C 1 0 dX5_isSameView_27 rfl rfl ⟨by omega, by omega, by omega⟩ ?_
      have g_7 := hvi r_6 (by omega) (by omega)
      refine y_icmp_eq C 33 dX5_isSameView_28 (by decide) ⟨⟨by omega, by omega⟩, ⟨by omega, by omega⟩⟩ (fun c_8 => ?_) (fun c_8 => ?_)
      · refine y_iinc C 3 [(3, .int (zI (c + 1))), (0, .ref x), (1, .int (zI row)), (2, .int (zI q))] dX5_isSameView_33 rfl (by decide) rfl ?_
        refine y_goto C 2 dX5_isSameView_36 (by decide) ?_
        refine y_lsub C [1, 2, 3, 0] (lv' := [(0, .ref x), (1, .int (zI row)), (2, .int (zI q)), (3, .int (zI (c + 1)))]) rfl ?_
        exact ih2 (c + 1) (by omega) (by intro k h1 h2; exact (show k < c ∨ k = c from by omega).elim (fun h3 => hs k h1 h3) (fun h3 => by rw [h3, ← hA, ← hB]; assumption)) (by omega)
      · refine y_iconst C dX5_isSameView_31 ?_
        refine hret _ _ _ _ dX5_isSameView_32 ⟨rfl, ?_⟩
        show ((0 = 1 ∧ (∀ k : Int, 0 ≤ k → k < 32 → vi (row * 32 + k) = vi (q * 32 + k))) ∨ (0 = 0 ∧ ¬ (∀ k : Int, 0 ≤ k → k < 32 → vi (row * 32 + k) = vi (q * 32 + k))))
        exact Or.inr ⟨rfl, fun z => absurd (z c (by omega) (by omega)) (by rw [← hA, ← hB]; assumption)⟩

set_option maxHeartbeats 4000000 in
set_option maxRecDepth 100000 in
theorem m_X5_isNewPicture {l : Launch} {D : va_G} {cA cB : ClassId} {x ss hh pd g vw rk : Nat} {has : Int} {s h : Nat} {vi : Int → Int} {row : Int} (hrow : 0 ≤ row ∧ row < 8) (hvi : ∀ k : Int, 0 ≤ k → k < 256 → -4 ≤ vi k ∧ vi k ≤ 4) : MI l yX5_isNewPicture cX5_isNewPicture 3 .boolean { frames := 2, cells := 0, slots := 0, locals := 44 } D (zT cA cB) [.ref x, .int (zI row)] [cO x 5 [.ref s, .ref ss, .int (zI has), .ref hh, .ref pd, .ref h, .ref g, .ref vw, .ref rk], cI cA vw 256 vi] (fun r w => w = [cO x 5 [.ref s, .ref ss, .int (zI has), .ref hh, .ref pd, .ref h, .ref g, .ref vw, .ref rk], cI cA vw 256 vi] ∧ ((r = 1 ∧ (∀ q : Int, 0 ≤ q → q < row → ¬ ∀ k : Int, 0 ≤ k → k < 32 → vi (row * 32 + k) = vi (q * 32 + k))) ∨ (r = 0 ∧ ¬ (∀ q : Int, 0 ≤ q → q < row → ¬ ∀ k : Int, 0 ≤ k → k < 32 → vi (row * 32 + k) = vi (q * 32 + k))))) := by
  refine MI.of RX5 ⟨rfl, by decide +kernel⟩ (Or.inr rfl) (Nat.le_of_ble_eq_true rfl) (fun _ r w h => by rcases h.2 with h | h; exact Or.inr h.1; exact Or.inl h.1) ?_
  intro K C hret
  change K 0 0 _ [(0, .ref x), (1, .int (zI row))] 0 []
  refine y_iconst C dX5_isNewPicture_0 ?_
  refine y_istore_n C [(2, .int (zI 0)), (0, .ref x), (1, .int (zI row))] dX5_isNewPicture_1 (by decide) rfl ?_
  refine y_lsub C [1, 2, 0] (lv' := [(0, .ref x), (1, .int (zI row)), (2, .int (zI 0))]) rfl ?_
  suffices hL2 : ∀ (fu : Nat) (c : Int), (0 ≤ c ∧ c ≤ row) → (∀ q : Int, 0 ≤ q → q < c → ¬ ∀ k : Int, 0 ≤ k → k < 32 → vi (row * 32 + k) = vi (q * 32 + k)) → (32 - c).toNat < fu → K 0 0 [cO x 5 [.ref s, .ref ss, .int (zI has), .ref hh, .ref pd, .ref h, .ref g, .ref vw, .ref rk], cI cA vw 256 vi] [(0, .ref x), (1, .int (zI row)), (2, .int (zI c))] 2 [] from hL2 _ 0 (by omega) (by intro k h1 h2; omega) (Nat.lt_succ_self _)
  intro f2
  induction f2 with
  | zero => exact fun _ _ _ hf => absurd hf (Nat.not_lt_zero _)
  | succ f2 ih2 =>
    intro c hc hs hf2
    refine y_iload_n C 2 dX5_isNewPicture_2 rfl ?_
    refine y_iload_n C 1 dX5_isNewPicture_3 rfl ?_
    refine y_icmp_ge C 24 dX5_isNewPicture_4 (by decide) ⟨⟨by omega, by omega⟩, ⟨by omega, by omega⟩⟩ (fun c_1 => ?_) (fun c_1 => ?_)
    · refine y_iconst C dX5_isNewPicture_24 ?_
      refine hret _ _ _ _ dX5_isNewPicture_25 ⟨rfl, ?_⟩
      show ((1 = 1 ∧ (∀ q : Int, 0 ≤ q → q < row → ¬ ∀ k : Int, 0 ≤ k → k < 32 → vi (row * 32 + k) = vi (q * 32 + k))) ∨ (1 = 0 ∧ ¬ (∀ q : Int, 0 ≤ q → q < row → ¬ ∀ k : Int, 0 ≤ k → k < 32 → vi (row * 32 + k) = vi (q * 32 + k))))
      exact Or.inl ⟨rfl, fun q h1 h2 => hs q h1 (by omega)⟩
    · refine y_aload_n C 0 dX5_isNewPicture_7 rfl ?_
      refine y_iload_n C 1 dX5_isNewPicture_8 rfl ?_
      refine y_iload_n C 2 dX5_isNewPicture_9 rfl ?_
      refine y_pcall C (m_X5_isSameView (l := l) (D := D) (cA := cA) (cB := cB) (x := x) (ss := ss) (hh := hh) (pd := pd) (g := g) (vw := vw) (rk := rk) (has := has) (s := s) (h := h) (vi := vi) (row := row) (q := c) (by first | assumption | omega | exact ⟨by omega, by omega⟩) (by first | assumption | omega | exact ⟨by omega, by omega⟩) (by first | assumption | omega | exact ⟨by omega, by omega⟩)) lk_X5_254 [0, 1] [] [0, 1] ⟨rfl, rfl, by decide, by decide, by decide⟩ ⟨rfl, by decide⟩ rfl rfl dX5_isNewPicture_10 rfl rfl ⟨by exact Nat.le_of_ble_eq_true rfl, by exact Nat.le_of_ble_eq_true rfl, rfl, rfl, by exact Nat.le_of_ble_eq_true rfl, by exact Nat.le_of_ble_eq_true rfl, by exact Nat.le_of_ble_eq_true rfl⟩ (fun r_3 h_2 => ?_)
      have hA := h_2
      refine y_if_eq C 18 dX5_isNewPicture_13 (by decide) ⟨by omega, by omega⟩ (fun c_4 => ?_) (fun c_4 => ?_)
      · refine y_iinc C 2 [(2, .int (zI (c + 1))), (0, .ref x), (1, .int (zI row))] dX5_isNewPicture_18 rfl (by decide) rfl ?_
        refine y_goto C 2 dX5_isNewPicture_21 (by decide) ?_
        refine y_lsub C [1, 2, 0] (lv' := [(0, .ref x), (1, .int (zI row)), (2, .int (zI (c + 1)))]) rfl ?_
        exact ih2 (c + 1) (by omega) (by intro q h1 h2; exact (show q < c ∨ q = c from by omega).elim (fun h3 => hs q h1 h3) (fun h3 => by rw [h3]; rcases hA with z | z; omega; exact z.2)) (by omega)
      · refine y_iconst C dX5_isNewPicture_16 ?_
        refine hret _ _ _ _ dX5_isNewPicture_17 ⟨rfl, ?_⟩
        show ((0 = 1 ∧ (∀ q : Int, 0 ≤ q → q < row → ¬ ∀ k : Int, 0 ≤ k → k < 32 → vi (row * 32 + k) = vi (q * 32 + k))) ∨ (0 = 0 ∧ ¬ (∀ q : Int, 0 ≤ q → q < row → ¬ ∀ k : Int, 0 ≤ k → k < 32 → vi (row * 32 + k) = vi (q * 32 + k))))
        exact Or.inr ⟨rfl, fun z => by rcases hA with y | y; exact z c (by omega) (by omega) y.2; omega⟩

set_option maxHeartbeats 4000000 in
set_option maxRecDepth 100000 in
theorem m_X5_rankOf {l : Launch} {D : va_G} {cA cB : ClassId} {x ss hh pd g vw rk : Nat} {has : Int} {s h : Nat} {ra : Int → Int} {i m : Int} (hm : 0 ≤ m ∧ m ≤ 23) (hi : 0 ≤ i ∧ i < m) (hra : ∀ k : Int, 0 ≤ k → k < 23 → 0 ≤ ra k ∧ ra k ≤ 5000) : MI l yX5_rankOf cX5_rankOf 5 .int { frames := 0, cells := 0, slots := 0, locals := 0 } D (zT cA cB) [.ref x, .int (zI i), .int (zI m)] [cO x 5 [.ref s, .ref ss, .int (zI has), .ref hh, .ref pd, .ref h, .ref g, .ref vw, .ref rk], cI cA rk 23 ra] (fun r w => w = [cO x 5 [.ref s, .ref ss, .int (zI has), .ref hh, .ref pd, .ref h, .ref g, .ref vw, .ref rk], cI cA rk 23 ra] ∧ r = rankZ ra m i ∧ 0 ≤ r ∧ r ≤ m) := by
  refine MI.of RX5 ⟨rfl, by decide +kernel⟩ (Or.inl rfl) (Nat.le_of_ble_eq_true rfl) (fun h => by cases h) ?_
  intro K C hret
  change K 0 0 _ [(0, .ref x), (1, .int (zI i)), (2, .int (zI m))] 0 []
  refine y_iconst C dX5_rankOf_0 ?_
  refine y_istore_n C [(3, .int (zI 0)), (0, .ref x), (1, .int (zI i)), (2, .int (zI m))] dX5_rankOf_1 (by decide) rfl ?_
  refine y_iconst C dX5_rankOf_2 ?_
  refine y_istore C [(4, .int (zI 0)), (3, .int (zI 0)), (0, .ref x), (1, .int (zI i)), (2, .int (zI m))] dX5_rankOf_3 (by decide) rfl ?_
  refine y_lsub C [2, 3, 4, 1, 0] (lv' := [(0, .ref x), (1, .int (zI i)), (2, .int (zI m)), (3, .int (zI 0)), (4, .int (zI 0))]) rfl ?_
  suffices hL5 : ∀ (fu : Nat) (n : Int) (c : Int), (0 ≤ c ∧ c ≤ m) → (n = zcnt (befP ra i) c ∧ 0 ≤ n ∧ n ≤ c) → (32 - c).toNat < fu → K 0 0 [cO x 5 [.ref s, .ref ss, .int (zI has), .ref hh, .ref pd, .ref h, .ref g, .ref vw, .ref rk], cI cA rk 23 ra] [(0, .ref x), (1, .int (zI i)), (2, .int (zI m)), (3, .int (zI n)), (4, .int (zI c))] 5 [] from hL5 _ 0 0 (by omega) (by exact ⟨rfl, by omega, by omega⟩) (Nat.lt_succ_self _)
  intro f5
  induction f5 with
  | zero => exact fun _ _ _ _ hf => absurd hf (Nat.not_lt_zero _)
  | succ f5 ih5 =>
    intro n c hc hn hf5
    refine y_iload C 4 dX5_rankOf_5 rfl ?_
    refine y_iload_n C 2 dX5_rankOf_7 rfl ?_
    refine y_icmp_ge C 58 dX5_rankOf_8 (by decide) ⟨⟨by omega, by omega⟩, ⟨by omega, by omega⟩⟩ (fun c_1 => ?_) (fun c_1 => ?_)
    · refine y_iload_n C 3 dX5_rankOf_58 rfl ?_
      refine hret _ _ _ _ dX5_rankOf_59 ⟨rfl, ?_⟩
      show n = rankZ ra m i ∧ 0 ≤ n ∧ n ≤ m
      obtain rfl : c = m := by omega
      exact hn
    · refine y_aload_n C 0 dX5_rankOf_11 rfl ?_
      refine y_get C fg_X5_47 0 dX5_rankOf_12 rfl rfl ?_
      refine y_iload C 4 dX5_rankOf_15 rfl ?_
      refine y_iald C 1 0 dX5_rankOf_17 rfl rfl ⟨by omega, by omega, by omega⟩ ?_
      have g_2 := hra c (by omega) (by omega)
      refine y_aload_n C 0 dX5_rankOf_18 rfl ?_
      refine y_get C fg_X5_47 0 dX5_rankOf_19 rfl rfl ?_
      refine y_iload_n C 1 dX5_rankOf_22 rfl ?_
      refine y_iald C 1 0 dX5_rankOf_23 rfl rfl ⟨by omega, by omega, by omega⟩ ?_
      have g_3 := hra i (by omega) (by omega)
      refine y_icmp_gt C 49 dX5_rankOf_24 (by decide) ⟨⟨by omega, by omega⟩, ⟨by omega, by omega⟩⟩ (fun c_4 => ?_) (fun c_4 => ?_)
      · refine y_iinc C 3 [(3, .int (zI (n + 1))), (0, .ref x), (1, .int (zI i)), (2, .int (zI m)), (4, .int (zI c))] dX5_rankOf_49 rfl (by decide) rfl ?_
        refine y_iinc C 4 [(4, .int (zI (c + 1))), (3, .int (zI (n + 1))), (0, .ref x), (1, .int (zI i)), (2, .int (zI m))] dX5_rankOf_52 rfl (by decide) rfl ?_
        refine y_goto C 5 dX5_rankOf_55 (by decide) ?_
        refine y_lsub C [2, 3, 4, 1, 0] (lv' := [(0, .ref x), (1, .int (zI i)), (2, .int (zI m)), (3, .int (zI (n + 1))), (4, .int (zI (c + 1)))]) rfl ?_
        exact ih5 (n + 1) (c + 1) (by omega) (by refine ⟨?_, by omega, by omega⟩; exact zcnt_step (by omega) hn.1 (by unfold befP; omega)) (by omega)
      · refine y_aload_n C 0 dX5_rankOf_27 rfl ?_
        refine y_get C fg_X5_47 0 dX5_rankOf_28 rfl rfl ?_
        refine y_iload C 4 dX5_rankOf_31 rfl ?_
        refine y_iald C 1 0 dX5_rankOf_33 rfl rfl ⟨by omega, by omega, by omega⟩ ?_
        have g_5 := hra c (by omega) (by omega)
        refine y_aload_n C 0 dX5_rankOf_34 rfl ?_
        refine y_get C fg_X5_47 0 dX5_rankOf_35 rfl rfl ?_
        refine y_iload_n C 1 dX5_rankOf_38 rfl ?_
        refine y_iald C 1 0 dX5_rankOf_39 rfl rfl ⟨by omega, by omega, by omega⟩ ?_
        have g_6 := hra i (by omega) (by omega)
        refine y_icmp_ne C 52 dX5_rankOf_40 (by decide) ⟨⟨by omega, by omega⟩, ⟨by omega, by omega⟩⟩ (fun c_7 => ?_) (fun c_7 => ?_)
        · refine y_iinc C 4 [(4, .int (zI (c + 1))), (0, .ref x), (1, .int (zI i)), (2, .int (zI m)), (3, .int (zI n))] dX5_rankOf_52 rfl (by decide) rfl ?_
          refine y_goto C 5 dX5_rankOf_55 (by decide) ?_
          refine y_lsub C [1, 2, 3, 4, 0] (lv' := [(0, .ref x), (1, .int (zI i)), (2, .int (zI m)), (3, .int (zI n)), (4, .int (zI (c + 1)))]) rfl ?_
          exact ih5 n (c + 1) (by omega) (by refine ⟨?_, by omega, by omega⟩; exact zcnt_step (by omega) hn.1 (by unfold befP; omega)) (by omega)
        · refine y_iload C 4 dX5_rankOf_43 rfl ?_
          refine y_iload_n C 1 dX5_rankOf_45 rfl ?_
          refine y_icmp_ge C 52 dX5_rankOf_46 (by decide) ⟨⟨by omega, by omega⟩, ⟨by omega, by omega⟩⟩ (fun c_8 => ?_) (fun c_8 => ?_)
          · refine y_iinc C 4 [(4, .int (zI (c + 1))), (0, .ref x), (1, .int (zI i)), (2, .int (zI m)), (3, .int (zI n))] dX5_rankOf_52 rfl (by decide) rfl ?_
            refine y_goto C 5 dX5_rankOf_55 (by decide) ?_
            refine y_lsub C [1, 2, 3, 4, 0] (lv' := [(0, .ref x), (1, .int (zI i)), (2, .int (zI m)), (3, .int (zI n)), (4, .int (zI (c + 1)))]) rfl ?_
            exact ih5 n (c + 1) (by omega) (by refine ⟨?_, by omega, by omega⟩; exact zcnt_step (by omega) hn.1 (by unfold befP; omega)) (by omega)
          · refine y_iinc C 3 [(3, .int (zI (n + 1))), (0, .ref x), (1, .int (zI i)), (2, .int (zI m)), (4, .int (zI c))] dX5_rankOf_49 rfl (by decide) rfl ?_
            refine y_iinc C 4 [(4, .int (zI (c + 1))), (3, .int (zI (n + 1))), (0, .ref x), (1, .int (zI i)), (2, .int (zI m))] dX5_rankOf_52 rfl (by decide) rfl ?_
            refine y_goto C 5 dX5_rankOf_55 (by decide) ?_
            refine y_lsub C [2, 3, 4, 1, 0] (lv' := [(0, .ref x), (1, .int (zI i)), (2, .int (zI m)), (3, .int (zI (n + 1))), (4, .int (zI (c + 1)))]) rfl ?_
            exact ih5 (n + 1) (c + 1) (by omega) (by refine ⟨?_, by omega, by omega⟩; exact zcnt_step (by omega) hn.1 (by unfold befP; omega)) (by omega)

set_option maxHeartbeats 4000000 in
set_option maxRecDepth 100000 in
theorem m_X5_rankedAt {l : Launch} {D : va_G} {cA cB : ClassId} {x ss hh pd g vw rk : Nat} {has : Int} {s h : Nat} {ra : Int → Int} {m pl : Int} (hm : 1 ≤ m ∧ m ≤ 23) (hpl : 0 ≤ pl ∧ pl ≤ 22) (hra : ∀ k : Int, 0 ≤ k → k < 23 → 0 ≤ ra k ∧ ra k ≤ 5000) : MI l yX5_rankedAt cX5_rankedAt 4 .int { frames := 1, cells := 0, slots := 0, locals := 24 } D (zT cA cB) [.ref x, .int (zI m), .int (zI pl)] [cO x 5 [.ref s, .ref ss, .int (zI has), .ref hh, .ref pd, .ref h, .ref g, .ref vw, .ref rk], cI cA rk 23 ra] (fun r w => w = [cO x 5 [.ref s, .ref ss, .int (zI has), .ref hh, .ref pd, .ref h, .ref g, .ref vw, .ref rk], cI cA rk 23 ra] ∧ r = pickZ ra m pl ∧ 0 ≤ r ∧ r ≤ 22) := by
  refine MI.of RX5 ⟨rfl, by decide +kernel⟩ (Or.inl rfl) (Nat.le_of_ble_eq_true rfl) (fun h => by cases h) ?_
  intro K C hret
  change K 0 0 _ [(0, .ref x), (1, .int (zI m)), (2, .int (zI pl))] 0 []
  refine y_iconst C dX5_rankedAt_0 ?_
  refine y_istore_n C [(3, .int (zI 0)), (0, .ref x), (1, .int (zI m)), (2, .int (zI pl))] dX5_rankedAt_1 (by decide) rfl ?_
  refine y_lsub C [1, 2, 3, 0] (lv' := [(0, .ref x), (1, .int (zI m)), (2, .int (zI pl)), (3, .int (zI 0))]) rfl ?_
  suffices hL2 : ∀ (fu : Nat) (i : Int), (0 ≤ i ∧ i ≤ m) → (∀ j : Int, 0 ≤ j → j < i → ¬ rankZ ra m j = pl) → (32 - i).toNat < fu → K 0 0 [cO x 5 [.ref s, .ref ss, .int (zI has), .ref hh, .ref pd, .ref h, .ref g, .ref vw, .ref rk], cI cA rk 23 ra] [(0, .ref x), (1, .int (zI m)), (2, .int (zI pl)), (3, .int (zI i))] 2 [] from hL2 _ 0 (by omega) (by intro j h1 h2; omega) (Nat.lt_succ_self _)
  intro f2
  induction f2 with
  | zero => exact fun _ _ _ hf => absurd hf (Nat.not_lt_zero _)
  | succ f2 ih2 =>
    intro i hi hn hf2
    refine y_iload_n C 3 dX5_rankedAt_2 rfl ?_
    refine y_iload_n C 1 dX5_rankedAt_3 rfl ?_
    refine y_icmp_ge C 25 dX5_rankedAt_4 (by decide) ⟨⟨by omega, by omega⟩, ⟨by omega, by omega⟩⟩ (fun c_1 => ?_) (fun c_1 => ?_)
    · refine y_iconst C dX5_rankedAt_25 ?_
      refine hret _ _ _ _ dX5_rankedAt_26 ⟨rfl, ?_⟩
      show 0 = pickZ ra m pl ∧ 0 ≤ 0 ∧ 0 ≤ 22
      exact ⟨(pickZ_of (Or.inr ⟨rfl, fun j h1 h2 => hn j h1 (by omega)⟩)).symm, by omega, by omega⟩
    · refine y_aload_n C 0 dX5_rankedAt_7 rfl ?_
      refine y_iload_n C 3 dX5_rankedAt_8 rfl ?_
      refine y_iload_n C 1 dX5_rankedAt_9 rfl ?_
      refine y_pcall C (m_X5_rankOf (l := l) (D := D) (cA := cA) (cB := cB) (x := x) (ss := ss) (hh := hh) (pd := pd) (g := g) (vw := vw) (rk := rk) (has := has) (s := s) (h := h) (ra := ra) (i := i) (m := m) (by first | assumption | omega | exact ⟨by omega, by omega⟩) (by first | assumption | omega | exact ⟨by omega, by omega⟩) (by first | assumption | omega | exact ⟨by omega, by omega⟩)) lk_X5_251 [0, 1] [] [0, 1] ⟨rfl, rfl, by decide, by decide, by decide⟩ ⟨rfl, by decide⟩ rfl rfl dX5_rankedAt_10 rfl rfl ⟨by exact Nat.le_of_ble_eq_true rfl, by exact Nat.le_of_ble_eq_true rfl, rfl, rfl, by exact Nat.le_of_ble_eq_true rfl, by exact Nat.le_of_ble_eq_true rfl, by exact Nat.le_of_ble_eq_true rfl⟩ (fun r_3 h_2 => ?_)
      have hA := h_2
      refine y_iload_n C 2 dX5_rankedAt_13 rfl ?_
      refine y_icmp_ne C 19 dX5_rankedAt_14 (by decide) ⟨⟨by omega, by omega⟩, ⟨by omega, by omega⟩⟩ (fun c_4 => ?_) (fun c_4 => ?_)
      · refine y_iinc C 3 [(3, .int (zI (i + 1))), (0, .ref x), (1, .int (zI m)), (2, .int (zI pl))] dX5_rankedAt_19 rfl (by decide) rfl ?_
        refine y_goto C 2 dX5_rankedAt_22 (by decide) ?_
        refine y_lsub C [1, 2, 3, 0] (lv' := [(0, .ref x), (1, .int (zI m)), (2, .int (zI pl)), (3, .int (zI (i + 1)))]) rfl ?_
        exact ih2 (i + 1) (by omega) (by intro j h1 h2; exact (show j < i ∨ j = i from by omega).elim (fun h3 => hn j h1 h3) (fun h3 => by rw [h3, ← hA.1]; assumption)) (by omega)
      · refine y_iload_n C 3 dX5_rankedAt_17 rfl ?_
        refine hret _ _ _ _ dX5_rankedAt_18 ⟨rfl, ?_⟩
        show i = pickZ ra m pl ∧ 0 ≤ i ∧ i ≤ 22
        refine ⟨(pickZ_of (Or.inl ⟨by omega, by omega, by rw [← hA.1]; assumption⟩)).symm, by omega, by omega⟩
