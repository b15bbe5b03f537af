set_option maxHeartbeats 4000000 in
set_option maxRecDepth 100000 in
theorem m_X1_longestChain {l : Launch} {D : va_G} {cA cB : ClassId} {h a0 a1 a2 a3 a4 a5 : Nat} {per win cr : Int} {ch : Int → Int} (hch : ∀ k : Int, 0 ≤ k → k < 32 → 0 ≤ ch k ∧ ch k ≤ 31) : MI l yX1_longestChain cX1_longestChain 3 .int { frames := 1, cells := 0, slots := 0, locals := 23 } D (zT cA cB) [.ref h] [cO h 1 [.ref a0, .ref a1, .ref a2, .ref a3, .ref a4, .ref a5, .int (zI per), .int (zI win), .int (zI cr)], cI cA a5 32 ch] (fun r w => w = [cO h 1 [.ref a0, .ref a1, .ref a2, .ref a3, .ref a4, .ref a5, .int (zI per), .int (zI win), .int (zI cr)], cI cA a5 32 ch] ∧ r = maxZ (fun q => zcnt (fun k => ch k = q) 32) 32 ∧ 0 ≤ r ∧ r ≤ 32) := by
  refine MI.of RX1 ⟨rfl, by decide +kernel⟩ (Or.inl rfl) (Nat.le_of_ble_eq_true rfl) (fun h => by cases h) ?_
  intro K C hret
  change K 0 0 _ [(0, .ref h)] 0 []
  refine y_iconst C dX1_longestChain_0 ?_
  refine y_istore_n C [(1, .int (zI 0)), (0, .ref h)] dX1_longestChain_1 (by decide) rfl ?_
  refine y_iconst C dX1_longestChain_2 ?_
  refine y_istore_n C [(2, .int (zI 0)), (1, .int (zI 0)), (0, .ref h)] dX1_longestChain_3 (by decide) rfl ?_
  refine y_lsub C [2, 1, 0] (lv' := [(0, .ref h), (1, .int (zI 0)), (2, .int (zI 0))]) rfl ?_
  suffices hL4 : ∀ (fu : Nat) (n : Int) (c : Int), (0 ≤ c ∧ c ≤ 32) → (n = maxZ (fun q => zcnt (fun k => ch k = q) 32) c ∧ 0 ≤ n ∧ n ≤ 32) → (32 - c).toNat < fu → K 0 0 [cO h 1 [.ref a0, .ref a1, .ref a2, .ref a3, .ref a4, .ref a5, .int (zI per), .int (zI win), .int (zI cr)], cI cA a5 32 ch] [(0, .ref h), (1, .int (zI n)), (2, .int (zI c))] 4 [] from hL4 _ 0 0 (by omega) (by exact ⟨rfl, by omega, by omega⟩) (Nat.lt_succ_self _)
  intro f4
  induction f4 with
  | zero => exact fun _ _ _ _ hf => absurd hf (Nat.not_lt_zero _)
  | succ f4 ih4 =>
    intro n c hc hn hf4
    refine y_iload_n C 2 dX1_longestChain_4 rfl ?_
    refine y_bipush C dX1_longestChain_5 (by decide +kernel) ?_
    refine y_icmp_ge C 26 dX1_longestChain_7 (by decide) ⟨⟨by omega, by omega⟩, ⟨by omega, by omega⟩⟩ (fun c_1 => ?_) (fun c_1 => ?_)
    · refine y_iload_n C 1 dX1_longestChain_26 rfl ?_
      refine hret _ _ _ _ dX1_longestChain_27 ⟨rfl, ?_⟩
      show n = maxZ (fun q => zcnt (fun k => ch k = q) 32) 32 ∧ 0 ≤ n ∧ n ≤ 32
      obtain rfl : c = 32 := by omega
      exact hn
    · refine y_iload_n C 1 dX1_longestChain_10 rfl ?_
      refine y_aload_n C 0 dX1_longestChain_11 rfl ?_
      refine y_iload_n C 2 dX1_longestChain_12 rfl ?_
      refine y_pcall C (m_X1_placesOfChain (l := l) (D := D) (cA := cA) (cB := cB) (h := h) (a0 := a0) (a1 := a1) (a2 := a2) (a3 := a3) (a4 := a4) (a5 := a5) (per := per) (win := win) (cr := cr) (ch := ch) (q := c) (by first | assumption | omega | exact ⟨by omega, by omega⟩) (by first | assumption | omega | exact ⟨by omega, by omega⟩)) lk_X1_114 [0, 1] [] [0, 1] ⟨rfl, rfl, by decide, by decide, by decide⟩ ⟨rfl, by decide⟩ rfl rfl dX1_longestChain_13 rfl rfl ⟨by exact Nat.le_of_ble_eq_true rfl, by exact Nat.le_of_ble_eq_true rfl, rfl, rfl, by exact Nat.le_of_ble_eq_true rfl, by exact Nat.le_of_ble_eq_true rfl, by exact Nat.le_of_ble_eq_true rfl⟩ (fun r_3 h_2 => ?_)
      have hr1 := (h_2).1
      refine y_max C lk_X1_99 dX1_longestChain_16 ⟨⟨by omega, by omega⟩, ⟨by omega, by omega⟩⟩ ⟨by exact Nat.le_of_ble_eq_true rfl, by exact Nat.le_of_ble_eq_true rfl, by exact Nat.le_of_ble_eq_true rfl, by exact Nat.le_of_ble_eq_true rfl⟩ (fun z_5 m_4 => ?_)
      refine y_istore_n C [(1, .int (zI z_5)), (0, .ref h), (2, .int (zI c))] dX1_longestChain_19 (by decide) rfl ?_
      refine y_iinc C 2 [(2, .int (zI (c + 1))), (1, .int (zI z_5)), (0, .ref h)] dX1_longestChain_20 rfl (by decide) rfl ?_
      refine y_goto C 4 dX1_longestChain_23 (by decide) ?_
      refine y_lsub C [2, 1, 0] (lv' := [(0, .ref h), (1, .int (zI z_5)), (2, .int (zI (c + 1)))]) rfl ?_
      exact ih4 z_5 (c + 1) (by omega) (by refine ⟨?_, by omega, by omega⟩; rw [maxZ_s _ (by omega), ← hn.1, ← hr1]; omega) (by omega)

set_option maxHeartbeats 4000000 in
set_option maxRecDepth 100000 in
theorem m_X1_changesOfPlane {l : Launch} {D : va_G} {cA cB : ClassId} {h a0 a1 a2 a3 a4 a5 : Nat} {per win cr : Int} {sn : Int → Int} (hsn : ∀ k : Int, 0 ≤ k → k < 32 → -4 ≤ sn k ∧ sn k ≤ 4) : MI l yX1_changesOfPlane cX1_changesOfPlane 4 .int { frames := 0, cells := 0, slots := 0, locals := 0 } D (zT cA cB) [.ref h] [cO h 1 [.ref a0, .ref a1, .ref a2, .ref a3, .ref a4, .ref a5, .int (zI per), .int (zI win), .int (zI cr)], cI cA a3 32 sn] (fun r w => w = [cO h 1 [.ref a0, .ref a1, .ref a2, .ref a3, .ref a4, .ref a5, .int (zI per), .int (zI win), .int (zI cr)], cI cA a3 32 sn] ∧ r = zcnt (chgP sn) 32 ∧ 0 ≤ r ∧ r ≤ 32) := by
  refine MI.of RX1 ⟨rfl, by decide +kernel⟩ (Or.inl rfl) (Nat.le_of_ble_eq_true rfl) (fun h => by cases h) ?_
  intro K C hret
  change K 0 0 _ [(0, .ref h)] 0 []
  refine y_iconst C dX1_changesOfPlane_0 ?_
  refine y_istore_n C [(1, .int (zI 0)), (0, .ref h)] dX1_changesOfPlane_1 (by decide) rfl ?_
  refine y_bipush C dX1_changesOfPlane_2 (by decide +kernel) ?_
  refine y_istore_n C [(2, .int (zI (-4))), (1, .int (zI 0)), (0, .ref h)] dX1_changesOfPlane_4 (by decide) rfl ?_
  refine y_iconst C dX1_changesOfPlane_5 ?_
  refine y_istore_n C [(3, .int (zI 0)), (2, .int (zI (-4))), (1, .int (zI 0)), (0, .ref h)] dX1_changesOfPlane_6 (by decide) rfl ?_
  refine y_lsub C [3, 2, 1, 0] (lv' := [(0, .ref h), (1, .int (zI 0)), (2, .int (zI (-4))), (3, .int (zI 0))]) rfl ?_
  suffices hL7 : ∀ (fu : Nat) (n : Int) (la : Int) (c : Int), (0 ≤ c ∧ c ≤ 32) → (la = lastZ sn c ∧ -4 ≤ la ∧ la ≤ 4) → (n = zcnt (chgP sn) c ∧ 0 ≤ n ∧ n ≤ c) → (32 - c).toNat < fu → K 0 0 [cO h 1 [.ref a0, .ref a1, .ref a2, .ref a3, .ref a4, .ref a5, .int (zI per), .int (zI win), .int (zI cr)], cI cA a3 32 sn] [(0, .ref h), (1, .int (zI n)), (2, .int (zI la)), (3, .int (zI c))] 7 [] from hL7 _ 0 (-4) 0 (by omega) (by exact ⟨rfl, by omega, by omega⟩) (by exact ⟨rfl, by omega, by omega⟩) (Nat.lt_succ_self _)
  intro f7
  induction f7 with
  | zero => exact fun _ _ _ _ _ _ hf => absurd hf (Nat.not_lt_zero _)
  | succ f7 ih7 =>
    intro n la c hc hl hn hf7
    refine y_iload_n C 3 dX1_changesOfPlane_7 rfl ?_
    refine y_bipush C dX1_changesOfPlane_8 (by decide +kernel) ?_
    refine y_icmp_ge C 56 dX1_changesOfPlane_10 (by decide) ⟨⟨by omega, by omega⟩, ⟨by omega, by omega⟩⟩ (fun c_1 => ?_) (fun c_1 => ?_)
    · refine y_iload_n C 1 dX1_changesOfPlane_56 rfl ?_
      refine hret _ _ _ _ dX1_changesOfPlane_57 ⟨rfl, ?_⟩
      show n = zcnt (chgP sn) 32 ∧ 0 ≤ n ∧ n ≤ 32
      obtain rfl : c = 32 := by omega
      exact hn
    · refine y_aload_n C 0 dX1_changesOfPlane_13 rfl ?_
      refine y_get C fg_X1_21 0 dX1_changesOfPlane_14 rfl rfl ?_
      refine y_iload_n C 3 dX1_changesOfPlane_17 rfl ?_
      refine y_iald C 1 0 dX1_changesOfPlane_18 rfl rfl ⟨by omega, by omega, by omega⟩ ?_
      have g_2 := hsn c (by omega) (by omega)
      refine y_bipush C dX1_changesOfPlane_19 (by decide +kernel) ?_
      refine y_icmp_eq C 50 dX1_changesOfPlane_21 (by decide) ⟨⟨by omega, by omega⟩, ⟨by omega, by omega⟩⟩ (fun c_3 => ?_) (fun c_3 => ?_)
      · refine y_iinc C 3 [(3, .int (zI (c + 1))), (0, .ref h), (1, .int (zI n)), (2, .int (zI la))] dX1_changesOfPlane_50 rfl (by decide) rfl ?_
        refine y_goto C 7 dX1_changesOfPlane_53 (by decide) ?_
        refine y_lsub C [1, 2, 3, 0] (lv' := [(0, .ref h), (1, .int (zI n)), (2, .int (zI la)), (3, .int (zI (c + 1)))]) rfl ?_
        exact ih7 n la (c + 1) (by omega) (by refine ⟨?_, by omega⟩; rw [lastZ_s sn (by omega)]; first | (rw [if_pos (by omega)]; exact hl.1) | rw [if_neg (by omega)]) (by refine ⟨?_, by omega, by omega⟩; exact zcnt_step (by omega) hn.1 (by unfold chgP; omega)) (by omega)
      · refine y_iload_n C 2 dX1_changesOfPlane_24 rfl ?_
        refine y_bipush C dX1_changesOfPlane_25 (by decide +kernel) ?_
        refine y_icmp_eq C 43 dX1_changesOfPlane_27 (by decide) ⟨⟨by omega, by omega⟩, ⟨by omega, by omega⟩⟩ (fun c_4 => ?_) (fun c_4 => ?_)
        · refine y_aload_n C 0 dX1_changesOfPlane_43 rfl ?_
          refine y_get C fg_X1_21 0 dX1_changesOfPlane_44 rfl rfl ?_
          refine y_iload_n C 3 dX1_changesOfPlane_47 rfl ?_
          refine y_iald C 1 0 dX1_changesOfPlane_48 rfl rfl ⟨by omega, by omega, by omega⟩ ?_
          have g_5 := hsn c (by omega) (by omega)
          refine y_istore_n C [(2, .int (zI (sn c))), (0, .ref h), (1, .int (zI n)), (3, .int (zI c))] dX1_changesOfPlane_49 (by decide) rfl ?_
          refine y_iinc C 3 [(3, .int (zI (c + 1))), (2, .int (zI (sn c))), (0, .ref h), (1, .int (zI n))] dX1_changesOfPlane_50 rfl (by decide) rfl ?_
          refine y_goto C 7 dX1_changesOfPlane_53 (by decide) ?_
          refine y_lsub C [2, 3, 1, 0] (lv' := [(0, .ref h), (1, .int (zI n)), (2, .int (zI (sn c))), (3, .int (zI (c + 1)))]) rfl ?_
          exact ih7 n (sn c) (c + 1) (by omega) (by refine ⟨?_, by omega⟩; rw [lastZ_s sn (by omega)]; first | (rw [if_pos (by omega)]; exact hl.1) | rw [if_neg (by omega)]) (by refine ⟨?_, by omega, by omega⟩; exact zcnt_step (by omega) hn.1 (by unfold chgP; omega)) (by omega)
        · refine y_aload_n C 0 dX1_changesOfPlane_30 rfl ?_
          refine y_get C fg_X1_21 0 dX1_changesOfPlane_31 rfl rfl ?_
          refine y_iload_n C 3 dX1_changesOfPlane_34 rfl ?_
          refine y_iald C 1 0 dX1_changesOfPlane_35 rfl rfl ⟨by omega, by omega, by omega⟩ ?_
          have g_6 := hsn c (by omega) (by omega)
          refine y_iload_n C 2 dX1_changesOfPlane_36 rfl ?_
          refine y_icmp_eq C 43 dX1_changesOfPlane_37 (by decide) ⟨⟨by omega, by omega⟩, ⟨by omega, by omega⟩⟩ (fun c_7 => ?_) (fun c_7 => ?_)
          · refine y_aload_n C 0 dX1_changesOfPlane_43 rfl ?_
            refine y_get C fg_X1_21 0 dX1_changesOfPlane_44 rfl rfl ?_
            refine y_iload_n C 3 dX1_changesOfPlane_47 rfl ?_
            refine y_iald C 1 0 dX1_changesOfPlane_48 rfl rfl ⟨by omega, by omega, by omega⟩ ?_
            have g_8 := hsn c (by omega) (by omega)
            refine y_istore_n C [(2, .int (zI (sn c))), (0, .ref h), (1, .int (zI n)), (3, .int (zI c))] dX1_changesOfPlane_49 (by decide) rfl ?_
            refine y_iinc C 3 [(3, .int (zI (c + 1))), (2, .int (zI (sn c))), (0, .ref h), (1, .int (zI n))] dX1_changesOfPlane_50 rfl (by decide) rfl ?_
            refine y_goto C 7 dX1_changesOfPlane_53 (by decide) ?_
            refine y_lsub C [2, 3, 1, 0] (lv' := [(0, .ref h), (1, .int (zI n)), (2, .int (zI (sn c))), (3, .int (zI (c + 1)))]) rfl ?_
            exact ih7 n (sn c) (c + 1) (by omega) (by refine ⟨?_, by omega⟩; rw [lastZ_s sn (by omega)]; first | (rw [if_pos (by omega)]; exact hl.1) | rw [if_neg (by omega)]) (by refine ⟨?_, by omega, by omega⟩; exact zcnt_step (by omega) hn.1 (by unfold chgP; omega)) (by omega)
          · refine y_iinc C 1 [(1, .int (zI (n + 1))), (0, .ref h), (2, .int (zI la)), (3, .int (zI c))] dX1_changesOfPlane_40 rfl (by decide) rfl ?_
            refine y_aload_n C 1 dX1_changesOfPlane_43 rfl ?_
            refine y_get C fg_X1_21 0 dX1_changesOfPlane_44 rfl rfl ?_
            refine y_iload_n C 3 dX1_changesOfPlane_47 rfl ?_
            refine y_iald C 1 0 dX1_changesOfPlane_48 rfl rfl ⟨by omega, by omega, by omega⟩ ?_
            have g_9 := hsn c (by omega) (by omega)
            refine y_istore_n C [(2, .int (zI (sn c))), (1, .int (zI (n + 1))), (0, .ref h), (3, .int (zI c))] dX1_changesOfPlane_49 (by decide) rfl ?_
            refine y_iinc C 3 [(3, .int (zI (c + 1))), (2, .int (zI (sn c))), (1, .int (zI (n + 1))), (0, .ref h)] dX1_changesOfPlane_50 rfl (by decide) rfl ?_
            refine y_goto C 7 dX1_changesOfPlane_53 (by decide) ?_
            refine y_lsub C [3, 2, 1, 0] (lv' := [(0, .ref h), (1, .int (zI (n + 1))), (2, .int (zI (sn c))), (3, .int (zI (c + 1)))]) rfl ?_
            exact ih7 (n + 1) (sn c) (c + 1) (by omega) (by refine ⟨?_, by omega⟩; rw [lastZ_s sn (by omega)]; first | (rw [if_pos (by omega)]; exact hl.1) | rw [if_neg (by omega)]) (by refine ⟨?_, by omega, by omega⟩; exact zcnt_step (by omega) hn.1 (by unfold chgP; omega)) (by omega)

set_option maxHeartbeats 4000000 in
set_option maxRecDepth 100000 in
theorem m_X1_echoOf {l : Launch} {D : va_G} {cA cB : ClassId} {h a0 a1 a2 a3 a4 a5 : Nat} {per win cr : Int} {d : Int → Int} {e : Int} (he : 2 ≤ e ∧ e ≤ 24) (hd : ∀ k : Int, 0 ≤ k → k < 32 → 0 ≤ d k ∧ d k ≤ 7) : MI l yX1_echoOf cX1_echoOf 4 .int { frames := 1, cells := 0, slots := 0, locals := 17 } D (zT cA cB) [.ref h, .int (zI e)] [cO h 1 [.ref a0, .ref a1, .ref a2, .ref a3, .ref a4, .ref a5, .int (zI per), .int (zI win), .int (zI cr)], cI cA a1 32 d] (fun r w => w = [cO h 1 [.ref a0, .ref a1, .ref a2, .ref a3, .ref a4, .ref a5, .int (zI per), .int (zI win), .int (zI cr)], cI cA a1 32 d] ∧ r = zcnt (fun k => e ≤ k ∧ d k = d (k - e)) 32 ∧ 0 ≤ r ∧ r ≤ 32) := by
  refine MI.of RX1 ⟨rfl, by decide +kernel⟩ (Or.inl rfl) (Nat.le_of_ble_eq_true rfl) (fun h => by cases h) ?_
  intro K C hret
  change K 0 0 _ [(0, .ref h), (1, .int (zI e))] 0 []
  refine y_iconst C dX1_echoOf_0 ?_
  refine y_istore_n C [(2, .int (zI 0)), (0, .ref h), (1, .int (zI e))] dX1_echoOf_1 (by decide) rfl ?_
  refine y_iload_n C 2 dX1_echoOf_2 rfl ?_
  refine y_iconst C dX1_echoOf_3 ?_
  refine y_max C lk_X1_99 dX1_echoOf_4 ⟨⟨by omega, by omega⟩, ⟨by omega, by omega⟩⟩ ⟨by exact Nat.le_of_ble_eq_true rfl, by exact Nat.le_of_ble_eq_true rfl, by exact Nat.le_of_ble_eq_true rfl, by exact Nat.le_of_ble_eq_true rfl⟩ (fun z_2 m_1 => ?_)
  refine y_istore_n C [(3, .int (zI z_2)), (2, .int (zI 0)), (0, .ref h), (1, .int (zI e))] dX1_echoOf_7 (by decide) rfl ?_
  refine y_lsub C [2, 3, 1, 0] (lv' := [(0, .ref h), (1, .int (zI e)), (2, .int (zI 0)), (3, .int (zI z_2))]) rfl ?_
  suffices hL8 : ∀ (fu : Nat) (n : Int) (c : Int), (e ≤ c ∧ c ≤ 32) → (n = zcnt (fun k => e ≤ k ∧ d k = d (k - e)) c ∧ 0 ≤ n ∧ n ≤ c) → (32 - c).toNat < fu → K 0 0 [cO h 1 [.ref a0, .ref a1, .ref a2, .ref a3, .ref a4, .ref a5, .int (zI per), .int (zI win), .int (zI cr)], cI cA a1 32 d] [(0, .ref h), (1, .int (zI e)), (2, .int (zI n)), (3, .int (zI c))] 8 [] from hL8 _ 0 z_2 (by omega) (by refine ⟨(zcnt_none (fun k h1 h2 h3 => by omega)).symm, by omega, by omega⟩) (Nat.lt_succ_self _)
  intro f8
  induction f8 with
  | zero => exact fun _ _ _ _ hf => absurd hf (Nat.not_lt_zero _)
  | succ f8 ih8 =>
    intro n c hc hn hf8
    refine y_iload_n C 3 dX1_echoOf_8 rfl ?_
    refine y_bipush C dX1_echoOf_9 (by decide +kernel) ?_
    refine y_icmp_ge C 40 dX1_echoOf_11 (by decide) ⟨⟨by omega, by omega⟩, ⟨by omega, by omega⟩⟩ (fun c_3 => ?_) (fun c_3 => ?_)
    · refine y_iload_n C 2 dX1_echoOf_40 rfl ?_
      refine hret _ _ _ _ dX1_echoOf_41 ⟨rfl, ?_⟩
      show n = zcnt (fun k => e ≤ k ∧ d k = d (k - e)) 32 ∧ 0 ≤ n ∧ n ≤ 32
      obtain rfl : c = 32 := by omega
      exact hn
    · refine y_aload_n C 0 dX1_echoOf_14 rfl ?_
      refine y_get C fg_X1_15 0 dX1_echoOf_15 rfl rfl ?_
      refine y_iload_n C 3 dX1_echoOf_18 rfl ?_
      refine y_iald C 1 0 dX1_echoOf_19 rfl rfl ⟨by omega, by omega, by omega⟩ ?_
      have g_4 := hd c (by omega) (by omega)
      refine y_aload_n C 0 dX1_echoOf_20 rfl ?_
      refine y_get C fg_X1_15 0 dX1_echoOf_21 rfl rfl ?_
      refine y_iload_n C 3 dX1_echoOf_24 rfl ?_
      refine y_iload_n C 1 dX1_echoOf_25 rfl ?_
      refine y_isub C dX1_echoOf_26 ?_
      refine y_iald C 1 0 dX1_echoOf_27 rfl rfl ⟨by omega, by omega, by omega⟩ ?_
      have g_5 := hd (c - e) (by omega) (by omega)
      refine y_icmp_ne C 34 dX1_echoOf_28 (by decide) ⟨⟨by omega, by omega⟩, ⟨by omega, by omega⟩⟩ (fun c_6 => ?_) (fun c_6 => ?_)
      · refine y_iinc C 3 [(3, .int (zI (c + 1))), (0, .ref h), (1, .int (zI e)), (2, .int (zI n))] dX1_echoOf_34 rfl (by decide) rfl ?_
        refine y_goto C 8 dX1_echoOf_37 (by decide) ?_
        refine y_lsub C [1, 2, 3, 0] (lv' := [(0, .ref h), (1, .int (zI e)), (2, .int (zI n)), (3, .int (zI (c + 1)))]) rfl ?_
        exact ih8 n (c + 1) (by omega) (by refine ⟨?_, by omega, by omega⟩; exact zcnt_step (by omega) hn.1 (by omega)) (by omega)
      · refine y_iinc C 2 [(2, .int (zI (n + 1))), (0, .ref h), (1, .int (zI e)), (3, .int (zI c))] dX1_echoOf_31 rfl (by decide) rfl ?_
        refine y_iinc C 3 [(3, .int (zI (c + 1))), (2, .int (zI (n + 1))), (0, .ref h), (1, .int (zI e))] dX1_echoOf_34 rfl (by decide) rfl ?_
        refine y_goto C 8 dX1_echoOf_37 (by decide) ?_
        refine y_lsub C [2, 3, 1, 0] (lv' := [(0, .ref h), (1, .int (zI e)), (2, .int (zI (n + 1))), (3, .int (zI (c + 1)))]) rfl ?_
        exact ih8 (n + 1) (c + 1) (by omega) (by refine ⟨?_, by omega, by omega⟩; exact zcnt_step (by omega) hn.1 (by omega)) (by omega)

set_option maxHeartbeats 4000000 in
set_option maxRecDepth 100000 in
theorem m_X1_numberOfPlane {l : Launch} {D : va_G} {cA cB : ClassId} {h a0 a1 a2 a3 a4 a5 : Nat} {per win cr : Int} {p sn : Int → Int} {q wh : Int} (hq : 0 ≤ q ∧ q ≤ 4) (hw : 0 ≤ wh ∧ wh ≤ 3) (hp : ∀ k : Int, 0 ≤ k → k < 32 → 0 ≤ p k ∧ p k ≤ 4) (hsn : ∀ k : Int, 0 ≤ k → k < 32 → -4 ≤ sn k ∧ sn k ≤ 4) : MI l yX1_numberOfPlane cX1_numberOfPlane 9 .int { frames := 0, cells := 0, slots := 0, locals := 0 } D (zT cA cB) [.ref h, .int (zI q), .int (zI wh)] [cO h 1 [.ref a0, .ref a1, .ref a2, .ref a3, .ref a4, .ref a5, .int (zI per), .int (zI win), .int (zI cr)], cI cA a0 32 p, cI cA a3 32 sn] (fun r w => w = [cO h 1 [.ref a0, .ref a1, .ref a2, .ref a3, .ref a4, .ref a5, .int (zI per), .int (zI win), .int (zI cr)], cI cA a0 32 p, cI cA a3 32 sn] ∧ r = numW p sn q wh ∧ 0 ≤ r ∧ r ≤ 32) := by
  refine MI.of RX1 ⟨rfl, by decide +kernel⟩ (Or.inl rfl) (Nat.le_of_ble_eq_true rfl) (fun h => by cases h) ?_
  intro K C hret
  change K 0 0 _ [(0, .ref h), (1, .int (zI q)), (2, .int (zI wh))] 0 []
  refine y_iconst C dX1_numberOfPlane_0 ?_
  refine y_istore_n C [(3, .int (zI 0)), (0, .ref h), (1, .int (zI q)), (2, .int (zI wh))] dX1_numberOfPlane_1 (by decide) rfl ?_
  refine y_iconst C dX1_numberOfPlane_2 ?_
  refine y_istore C [(4, .int (zI 0)), (3, .int (zI 0)), (0, .ref h), (1, .int (zI q)), (2, .int (zI wh))] dX1_numberOfPlane_3 (by decide) rfl ?_
  refine y_iconst C dX1_numberOfPlane_5 ?_
  refine y_istore C [(5, .int (zI 0)), (4, .int (zI 0)), (3, .int (zI 0)), (0, .ref h), (1, .int (zI q)), (2, .int (zI wh))] dX1_numberOfPlane_6 (by decide) rfl ?_
  refine y_iconst C dX1_numberOfPlane_8 ?_
  refine y_istore C [(6, .int (zI 0)), (5, .int (zI 0)), (4, .int (zI 0)), (3, .int (zI 0)), (0, .ref h), (1, .int (zI q)), (2, .int (zI wh))] dX1_numberOfPlane_9 (by decide) rfl ?_
  refine y_lsub C [4, 5, 6, 3, 2, 1, 0] (lv' := [(0, .ref h), (1, .int (zI q)), (2, .int (zI wh)), (3, .int (zI 0)), (4, .int (zI 0)), (5, .int (zI 0)), (6, .int (zI 0))]) rfl ?_
  suffices hL11 : ∀ (fu : Nat) (n1 : Int) (n2 : Int) (n3 : Int) (c : Int), (0 ≤ c ∧ c ≤ 32) → (n1 = zcnt (fun k => p k = q) c ∧ 0 ≤ n1 ∧ n1 ≤ c) → (n2 = zcnt (fun k => sn k = q) c ∧ 0 ≤ n2 ∧ n2 ≤ c) → (n3 = zcnt (fun k => p k = q ∧ sn k = q) c ∧ 0 ≤ n3 ∧ n3 ≤ c) → (32 - c).toNat < fu → K 0 0 [cO h 1 [.ref a0, .ref a1, .ref a2, .ref a3, .ref a4, .ref a5, .int (zI per), .int (zI win), .int (zI cr)], cI cA a0 32 p, cI cA a3 32 sn] [(0, .ref h), (1, .int (zI q)), (2, .int (zI wh)), (3, .int (zI n1)), (4, .int (zI n2)), (5, .int (zI n3)), (6, .int (zI c))] 11 [] from hL11 _ 0 0 0 0 (by omega) (by exact ⟨rfl, by omega, by omega⟩) (by exact ⟨rfl, by omega, by omega⟩) (by exact ⟨rfl, by omega, by omega⟩) (Nat.lt_succ_self _)
  intro f11
  induction f11 with
  | zero => exact fun _ _ _ _ _ _ _ _ hf => absurd hf (Nat.not_lt_zero _)
  | succ f11 ih11 =>
    intro n1 n2 n3 c hc h1 h2 h3 hf11
    refine y_iload C 6 dX1_numberOfPlane_11 rfl ?_
    refine y_bipush C dX1_numberOfPlane_13 (by decide +kernel) ?_
    refine y_icmp_ge C 108 dX1_numberOfPlane_15 (by decide) ⟨⟨by omega, by omega⟩, ⟨by omega, by omega⟩⟩ (fun c_1 => ?_) (fun c_1 => ?_)
    · refine y_iload_n C 2 dX1_numberOfPlane_108 rfl ?_
      rcases (show wh = 0 ∨ wh = 1 ∨ wh = 2 ∨ (wh < 0 ∨ 2 < wh) from by omega) with s_2 | s_2 | s_2 | s_2
      · refine y_tin C 136 0 dX1_numberOfPlane_109 ⟨by omega, by omega⟩ ⟨by omega, by omega⟩ (by omega) rfl (by decide) ?_
        refine y_iload_n C 3 dX1_numberOfPlane_136 rfl ?_
        refine hret _ _ _ _ dX1_numberOfPlane_137 ⟨rfl, ?_⟩
        show n1 = numW p sn q wh ∧ 0 ≤ n1 ∧ n1 ≤ 32
        obtain rfl : c = 32 := by omega
        refine ⟨?_, by omega, by omega⟩
        unfold numW
        rw [← h1.1, ← h2.1, ← h3.1]
        (repeat' split) <;> omega
      · refine y_tin C 138 1 dX1_numberOfPlane_109 ⟨by omega, by omega⟩ ⟨by omega, by omega⟩ (by omega) rfl (by decide) ?_
        refine y_iload C 4 dX1_numberOfPlane_138 rfl ?_
        refine hret _ _ _ _ dX1_numberOfPlane_140 ⟨rfl, ?_⟩
        show n2 = numW p sn q wh ∧ 0 ≤ n2 ∧ n2 ≤ 32
        obtain rfl : c = 32 := by omega
        refine ⟨?_, by omega, by omega⟩
        unfold numW
        rw [← h1.1, ← h2.1, ← h3.1]
        (repeat' split) <;> omega
      · refine y_tin C 141 2 dX1_numberOfPlane_109 ⟨by omega, by omega⟩ ⟨by omega, by omega⟩ (by omega) rfl (by decide) ?_
        refine y_iload C 5 dX1_numberOfPlane_141 rfl ?_
        refine hret _ _ _ _ dX1_numberOfPlane_143 ⟨rfl, ?_⟩
        show n3 = numW p sn q wh ∧ 0 ≤ n3 ∧ n3 ≤ 32
        obtain rfl : c = 32 := by omega
        refine ⟨?_, by omega, by omega⟩
        unfold numW
        rw [← h1.1, ← h2.1, ← h3.1]
        (repeat' split) <;> omega
      · refine y_tout C 144 dX1_numberOfPlane_109 ⟨by omega, by omega⟩ (by omega) (by decide) ?_
        refine y_iload_n C 3 dX1_numberOfPlane_144 rfl ?_
        refine y_if_le C 152 dX1_numberOfPlane_145 (by decide) ⟨by omega, by omega⟩ (fun c_3 => ?_) (fun c_3 => ?_)
        · refine y_iconst C dX1_numberOfPlane_152 ?_
          refine hret _ _ _ _ dX1_numberOfPlane_153 ⟨rfl, ?_⟩
          show 0 = numW p sn q wh ∧ 0 ≤ 0 ∧ 0 ≤ 32
          obtain rfl : c = 32 := by omega
          refine ⟨?_, by omega, by omega⟩
          unfold numW
          rw [← h1.1, ← h2.1, ← h3.1]
          (repeat' split) <;> omega
        · refine y_iconst C dX1_numberOfPlane_148 ?_
          refine y_goto C 153 dX1_numberOfPlane_149 (by decide) ?_
          refine hret _ _ _ _ dX1_numberOfPlane_153 ⟨rfl, ?_⟩
          show 1 = numW p sn q wh ∧ 0 ≤ 1 ∧ 1 ≤ 32
          obtain rfl : c = 32 := by omega
          refine ⟨?_, by omega, by omega⟩
          unfold numW
          rw [← h1.1, ← h2.1, ← h3.1]
          (repeat' split) <;> omega
    · refine y_aload_n C 0 dX1_numberOfPlane_18 rfl ?_
      refine y_get C fg_X1_9 0 dX1_numberOfPlane_19 rfl rfl ?_
      refine y_iload C 6 dX1_numberOfPlane_22 rfl ?_
      refine y_iald C 1 0 dX1_numberOfPlane_24 rfl rfl ⟨by omega, by omega, by omega⟩ ?_
      have g_4 := hp c (by omega) (by omega)
      refine y_iload_n C 1 dX1_numberOfPlane_25 rfl ?_
      refine y_icmp_ne C 33 dX1_numberOfPlane_26 (by decide) ⟨⟨by omega, by omega⟩, ⟨by omega, by omega⟩⟩ (fun c_5 => ?_) (fun c_5 => ?_)
      · refine y_iconst C dX1_numberOfPlane_33 ?_
        refine y_istore C [(7, .int (zI 0)), (0, .ref h), (1, .int (zI q)), (2, .int (zI wh)), (3, .int (zI n1)), (4, .int (zI n2)), (5, .int (zI n3)), (6, .int (zI c))] dX1_numberOfPlane_34 (by decide) rfl ?_
        refine y_aload_n C 1 dX1_numberOfPlane_36 rfl ?_
        refine y_get C fg_X1_21 0 dX1_numberOfPlane_37 rfl rfl ?_
        refine y_iload C 7 dX1_numberOfPlane_40 rfl ?_
        refine y_iald C 2 0 dX1_numberOfPlane_42 rfl rfl ⟨by omega, by omega, by omega⟩ ?_
        have g_6 := hsn c (by omega) (by omega)
        refine y_iload_n C 2 dX1_numberOfPlane_43 rfl ?_
        refine y_icmp_ne C 51 dX1_numberOfPlane_44 (by decide) ⟨⟨by omega, by omega⟩, ⟨by omega, by omega⟩⟩ (fun c_7 => ?_) (fun c_7 => ?_)
        · refine y_iconst C dX1_numberOfPlane_51 ?_
          refine y_istore C [(8, .int (zI 0)), (7, .int (zI 0)), (0, .ref h), (1, .int (zI q)), (2, .int (zI wh)), (3, .int (zI n1)), (4, .int (zI n2)), (5, .int (zI n3)), (6, .int (zI c))] dX1_numberOfPlane_52 (by decide) rfl ?_
          refine y_iload_n C 5 dX1_numberOfPlane_54 rfl ?_
          refine y_iload C 1 dX1_numberOfPlane_55 rfl ?_
          refine y_if_eq C 64 dX1_numberOfPlane_57 (by decide) ⟨by omega, by omega⟩ (fun _ => ?_) (fun h => absurd h (by decide))
          refine y_iconst C dX1_numberOfPlane_64 ?_
          refine y_iadd C dX1_numberOfPlane_65 ?_
          refine y_istore_n C [(3, .int (zI (n1 + 0))), (8, .int (zI 0)), (7, .int (zI 0)), (0, .ref h), (1, .int (zI q)), (2, .int (zI wh)), (4, .int (zI n2)), (5, .int (zI n3)), (6, .int (zI c))] dX1_numberOfPlane_66 (by decide) rfl ?_
          refine y_iload C 6 dX1_numberOfPlane_67 rfl ?_
          refine y_iload C 1 dX1_numberOfPlane_69 rfl ?_
          refine y_if_eq C 78 dX1_numberOfPlane_71 (by decide) ⟨by omega, by omega⟩ (fun _ => ?_) (fun h => absurd h (by decide))
          refine y_iconst C dX1_numberOfPlane_78 ?_
          refine y_iadd C dX1_numberOfPlane_79 ?_
          refine y_istore C [(4, .int (zI (n2 + 0))), (3, .int (zI (n1 + 0))), (8, .int (zI 0)), (7, .int (zI 0)), (0, .ref h), (1, .int (zI q)), (2, .int (zI wh)), (5, .int (zI n3)), (6, .int (zI c))] dX1_numberOfPlane_80 (by decide) rfl ?_
          refine y_iload C 7 dX1_numberOfPlane_82 rfl ?_
          refine y_iload C 3 dX1_numberOfPlane_84 rfl ?_
          refine y_if_eq C 98 dX1_numberOfPlane_86 (by decide) ⟨by omega, by omega⟩ (fun _ => ?_) (fun h => absurd h (by decide))
          refine y_iconst C dX1_numberOfPlane_98 ?_
          refine y_iadd C dX1_numberOfPlane_99 ?_
          refine y_istore C [(5, .int (zI (n3 + 0))), (4, .int (zI (n2 + 0))), (3, .int (zI (n1 + 0))), (8, .int (zI 0)), (7, .int (zI 0)), (0, .ref h), (1, .int (zI q)), (2, .int (zI wh)), (6, .int (zI c))] dX1_numberOfPlane_100 (by decide) rfl ?_
          refine y_iinc C 8 [(6, .int (zI (c + 1))), (5, .int (zI (n3 + 0))), (4, .int (zI (n2 + 0))), (3, .int (zI (n1 + 0))), (8, .int (zI 0)), (7, .int (zI 0)), (0, .ref h), (1, .int (zI q)), (2, .int (zI wh))] dX1_numberOfPlane_102 rfl (by decide) rfl ?_
          refine y_goto C 11 dX1_numberOfPlane_105 (by decide) ?_
          refine y_lsub C [6, 7, 8, 3, 2, 1, 0] (lv' := [(0, .ref h), (1, .int (zI q)), (2, .int (zI wh)), (3, .int (zI (n1 + 0))), (4, .int (zI (n2 + 0))), (5, .int (zI (n3 + 0))), (6, .int (zI (c + 1)))]) rfl ?_
          exact ih11 (n1 + 0) (n2 + 0) (n3 + 0) (c + 1) (by omega) (by refine ⟨?_, by omega, by omega⟩; exact zcnt_step (by omega) h1.1 (by omega)) (by refine ⟨?_, by omega, by omega⟩; exact zcnt_step (by omega) h2.1 (by omega)) (by refine ⟨?_, by omega, by omega⟩; exact zcnt_step (by omega) h3.1 (by omega)) (by omega)
        · refine y_iconst C dX1_numberOfPlane_47 ?_
          refine y_goto C 52 dX1_numberOfPlane_48 (by decide) ?_
          refine y_istore C [(8, .int (zI 1)), (7, .int (zI 0)), (0, .ref h), (1, .int (zI q)), (2, .int (zI wh)), (3, .int (zI n1)), (4, .int (zI n2)), (5, .int (zI n3)), (6, .int (zI c))] dX1_numberOfPlane_52 (by decide) rfl ?_
          refine y_iload_n C 5 dX1_numberOfPlane_54 rfl ?_
          refine y_iload C 1 dX1_numberOfPlane_55 rfl ?_
          refine y_if_eq C 64 dX1_numberOfPlane_57 (by decide) ⟨by omega, by omega⟩ (fun _ => ?_) (fun h => absurd h (by decide))
          refine y_iconst C dX1_numberOfPlane_64 ?_
          refine y_iadd C dX1_numberOfPlane_65 ?_
          refine y_istore_n C [(3, .int (zI (n1 + 0))), (8, .int (zI 1)), (7, .int (zI 0)), (0, .ref h), (1, .int (zI q)), (2, .int (zI wh)), (4, .int (zI n2)), (5, .int (zI n3)), (6, .int (zI c))] dX1_numberOfPlane_66 (by decide) rfl ?_
          refine y_iload C 6 dX1_numberOfPlane_67 rfl ?_
          refine y_iload C 1 dX1_numberOfPlane_69 rfl ?_
          refine y_if_eq C 78 dX1_numberOfPlane_71 (by decide) ⟨by omega, by omega⟩ (fun h => absurd h (by decide)) (fun _ => ?_)
          refine y_iconst C dX1_numberOfPlane_74 ?_
          refine y_goto C 79 dX1_numberOfPlane_75 (by decide) ?_
          refine y_iadd C dX1_numberOfPlane_79 ?_
          refine y_istore C [(4, .int (zI (n2 + 1))), (3, .int (zI (n1 + 0))), (8, .int (zI 1)), (7, .int (zI 0)), (0, .ref h), (1, .int (zI q)), (2, .int (zI wh)), (5, .int (zI n3)), (6, .int (zI c))] dX1_numberOfPlane_80 (by decide) rfl ?_
          refine y_iload C 7 dX1_numberOfPlane_82 rfl ?_
          refine y_iload C 3 dX1_numberOfPlane_84 rfl ?_
          refine y_if_eq C 98 dX1_numberOfPlane_86 (by decide) ⟨by omega, by omega⟩ (fun _ => ?_) (fun h => absurd h (by decide))
          refine y_iconst C dX1_numberOfPlane_98 ?_
          refine y_iadd C dX1_numberOfPlane_99 ?_
          refine y_istore C [(5, .int (zI (n3 + 0))), (4, .int (zI (n2 + 1))), (3, .int (zI (n1 + 0))), (8, .int (zI 1)), (7, .int (zI 0)), (0, .ref h), (1, .int (zI q)), (2, .int (zI wh)), (6, .int (zI c))] dX1_numberOfPlane_100 (by decide) rfl ?_
          refine y_iinc C 8 [(6, .int (zI (c + 1))), (5, .int (zI (n3 + 0))), (4, .int (zI (n2 + 1))), (3, .int (zI (n1 + 0))), (8, .int (zI 1)), (7, .int (zI 0)), (0, .ref h), (1, .int (zI q)), (2, .int (zI wh))] dX1_numberOfPlane_102 rfl (by decide) rfl ?_
          refine y_goto C 11 dX1_numberOfPlane_105 (by decide) ?_
          refine y_lsub C [6, 7, 8, 3, 2, 1, 0] (lv' := [(0, .ref h), (1, .int (zI q)), (2, .int (zI wh)), (3, .int (zI (n1 + 0))), (4, .int (zI (n2 + 1))), (5, .int (zI (n3 + 0))), (6, .int (zI (c + 1)))]) rfl ?_
          exact ih11 (n1 + 0) (n2 + 1) (n3 + 0) (c + 1) (by omega) (by refine ⟨?_, by omega, by omega⟩; exact zcnt_step (by omega) h1.1 (by omega)) (by refine ⟨?_, by omega, by omega⟩; exact zcnt_step (by omega) h2.1 (by omega)) (by refine ⟨?_, by omega, by omega⟩; exact zcnt_step (by omega) h3.1 (by omega)) (by omega)
      · refine y_iconst C dX1_numberOfPlane_29 ?_
        refine y_goto C 34 dX1_numberOfPlane_30 (by decide) ?_
        refine y_istore C [(7, .int (zI 1)), (0, .ref h), (1, .int (zI q)), (2, .int (zI wh)), (3, .int (zI n1)), (4, .int (zI n2)), (5, .int (zI n3)), (6, .int (zI c))] dX1_numberOfPlane_34 (by decide) rfl ?_
        refine y_aload_n C 1 dX1_numberOfPlane_36 rfl ?_
        refine y_get C fg_X1_21 0 dX1_numberOfPlane_37 rfl rfl ?_
        refine y_iload C 7 dX1_numberOfPlane_40 rfl ?_
        refine y_iald C 2 0 dX1_numberOfPlane_42 rfl rfl ⟨by omega, by omega, by omega⟩ ?_
        have g_14 := hsn c (by omega) (by omega)
        refine y_iload_n C 2 dX1_numberOfPlane_43 rfl ?_
        refine y_icmp_ne C 51 dX1_numberOfPlane_44 (by decide) ⟨⟨by omega, by omega⟩, ⟨by omega, by omega⟩⟩ (fun c_15 => ?_) (fun c_15 => ?_)
        · refine y_iconst C dX1_numberOfPlane_51 ?_
          refine y_istore C [(8, .int (zI 0)), (7, .int (zI 1)), (0, .ref h), (1, .int (zI q)), (2, .int (zI wh)), (3, .int (zI n1)), (4, .int (zI n2)), (5, .int (zI n3)), (6, .int (zI c))] dX1_numberOfPlane_52 (by decide) rfl ?_
          refine y_iload_n C 5 dX1_numberOfPlane_54 rfl ?_
          refine y_iload C 1 dX1_numberOfPlane_55 rfl ?_
          refine y_if_eq C 64 dX1_numberOfPlane_57 (by decide) ⟨by omega, by omega⟩ (fun h => absurd h (by decide)) (fun _ => ?_)
          refine y_iconst C dX1_numberOfPlane_60 ?_
          refine y_goto C 65 dX1_numberOfPlane_61 (by decide) ?_
          refine y_iadd C dX1_numberOfPlane_65 ?_
          refine y_istore_n C [(3, .int (zI (n1 + 1))), (8, .int (zI 0)), (7, .int (zI 1)), (0, .ref h), (1, .int (zI q)), (2, .int (zI wh)), (4, .int (zI n2)), (5, .int (zI n3)), (6, .int (zI c))] dX1_numberOfPlane_66 (by decide) rfl ?_
          refine y_iload C 6 dX1_numberOfPlane_67 rfl ?_
          refine y_iload C 1 dX1_numberOfPlane_69 rfl ?_
          refine y_if_eq C 78 dX1_numberOfPlane_71 (by decide) ⟨by omega, by omega⟩ (fun _ => ?_) (fun h => absurd h (by decide))
          refine y_iconst C dX1_numberOfPlane_78 ?_
          refine y_iadd C dX1_numberOfPlane_79 ?_
          refine y_istore C [(4, .int (zI (n2 + 0))), (3, .int (zI (n1 + 1))), (8, .int (zI 0)), (7, .int (zI 1)), (0, .ref h), (1, .int (zI q)), (2, .int (zI wh)), (5, .int (zI n3)), (6, .int (zI c))] dX1_numberOfPlane_80 (by decide) rfl ?_
          refine y_iload C 7 dX1_numberOfPlane_82 rfl ?_
          refine y_iload C 3 dX1_numberOfPlane_84 rfl ?_
          refine y_if_eq C 98 dX1_numberOfPlane_86 (by decide) ⟨by omega, by omega⟩ (fun h => absurd h (by decide)) (fun _ => ?_)
          refine y_iload C 2 dX1_numberOfPlane_89 rfl ?_
          refine y_if_eq C 98 dX1_numberOfPlane_91 (by decide) ⟨by omega, by omega⟩ (fun _ => ?_) (fun h => absurd h (by decide))
          refine y_iconst C dX1_numberOfPlane_98 ?_
          refine y_iadd C dX1_numberOfPlane_99 ?_
          refine y_istore C [(5, .int (zI (n3 + 0))), (4, .int (zI (n2 + 0))), (3, .int (zI (n1 + 1))), (8, .int (zI 0)), (7, .int (zI 1)), (0, .ref h), (1, .int (zI q)), (2, .int (zI wh)), (6, .int (zI c))] dX1_numberOfPlane_100 (by decide) rfl ?_
          refine y_iinc C 8 [(6, .int (zI (c + 1))), (5, .int (zI (n3 + 0))), (4, .int (zI (n2 + 0))), (3, .int (zI (n1 + 1))), (8, .int (zI 0)), (7, .int (zI 1)), (0, .ref h), (1, .int (zI q)), (2, .int (zI wh))] dX1_numberOfPlane_102 rfl (by decide) rfl ?_
          refine y_goto C 11 dX1_numberOfPlane_105 (by decide) ?_
          refine y_lsub C [6, 7, 8, 3, 2, 1, 0] (lv' := [(0, .ref h), (1, .int (zI q)), (2, .int (zI wh)), (3, .int (zI (n1 + 1))), (4, .int (zI (n2 + 0))), (5, .int (zI (n3 + 0))), (6, .int (zI (c + 1)))]) rfl ?_
          exact ih11 (n1 + 1) (n2 + 0) (n3 + 0) (c + 1) (by omega) (by refine ⟨?_, by omega, by omega⟩; exact zcnt_step (by omega) h1.1 (by omega)) (by refine ⟨?_, by omega, by omega⟩; exact zcnt_step (by omega) h2.1 (by omega)) (by refine ⟨?_, by omega, by omega⟩; exact zcnt_step (by omega) h3.1 (by omega)) (by omega)
        · refine y_iconst C dX1_numberOfPlane_47 ?_
          refine y_goto C 52 dX1_numberOfPlane_48 (by decide) ?_
          refine y_istore C [(8, .int (zI 1)), (7, .int (zI 1)), (0, .ref h), (1, .int (zI q)), (2, .int (zI wh)), (3, .int (zI n1)), (4, .int (zI n2)), (5, .int (zI n3)), (6, .int (zI c))] dX1_numberOfPlane_52 (by decide) rfl ?_
          refine y_iload_n C 5 dX1_numberOfPlane_54 rfl ?_
          refine y_iload C 1 dX1_numberOfPlane_55 rfl ?_
          refine y_if_eq C 64 dX1_numberOfPlane_57 (by decide) ⟨by omega, by omega⟩ (fun h => absurd h (by decide)) (fun _ => ?_)
          refine y_iconst C dX1_numberOfPlane_60 ?_
          refine y_goto C 65 dX1_numberOfPlane_61 (by decide) ?_
          refine y_iadd C dX1_numberOfPlane_65 ?_
          refine y_istore_n C [(3, .int (zI (n1 + 1))), (8, .int (zI 1)), (7, .int (zI 1)), (0, .ref h), (1, .int (zI q)), (2, .int (zI wh)), (4, .int (zI n2)), (5, .int (zI n3)), (6, .int (zI c))] dX1_numberOfPlane_66 (by decide) rfl ?_
          refine y_iload C 6 dX1_numberOfPlane_67 rfl ?_
          refine y_iload C 1 dX1_numberOfPlane_69 rfl ?_
          refine y_if_eq C 78 dX1_numberOfPlane_71 (by decide) ⟨by omega, by omega⟩ (fun h => absurd h (by decide)) (fun _ => ?_)
          refine y_iconst C dX1_numberOfPlane_74 ?_
          refine y_goto C 79 dX1_numberOfPlane_75 (by decide) ?_
          refine y_iadd C dX1_numberOfPlane_79 ?_
          refine y_istore C [(4, .int (zI (n2 + 1))), (3, .int (zI (n1 + 1))), (8, .int (zI 1)), (7, .int (zI 1)), (0, .ref h), (1, .int (zI q)), (2, .int (zI wh)), (5, .int (zI n3)), (6, .int (zI c))] dX1_numberOfPlane_80 (by decide) rfl ?_
          refine y_iload C 7 dX1_numberOfPlane_82 rfl ?_
          refine y_iload C 3 dX1_numberOfPlane_84 rfl ?_
          refine y_if_eq C 98 dX1_numberOfPlane_86 (by decide) ⟨by omega, by omega⟩ (fun h => absurd h (by decide)) (fun _ => ?_)
          refine y_iload C 2 dX1_numberOfPlane_89 rfl ?_
          refine y_if_eq C 98 dX1_numberOfPlane_91 (by decide) ⟨by omega, by omega⟩ (fun h => absurd h (by decide)) (fun _ => ?_)
          refine y_iconst C dX1_numberOfPlane_94 ?_
          refine y_goto C 99 dX1_numberOfPlane_95 (by decide) ?_
          refine y_iadd C dX1_numberOfPlane_99 ?_
          refine y_istore C [(5, .int (zI (n3 + 1))), (4, .int (zI (n2 + 1))), (3, .int (zI (n1 + 1))), (8, .int (zI 1)), (7, .int (zI 1)), (0, .ref h), (1, .int (zI q)), (2, .int (zI wh)), (6, .int (zI c))] dX1_numberOfPlane_100 (by decide) rfl ?_
          refine y_iinc C 8 [(6, .int (zI (c + 1))), (5, .int (zI (n3 + 1))), (4, .int (zI (n2 + 1))), (3, .int (zI (n1 + 1))), (8, .int (zI 1)), (7, .int (zI 1)), (0, .ref h), (1, .int (zI q)), (2, .int (zI wh))] dX1_numberOfPlane_102 rfl (by decide) rfl ?_
          refine y_goto C 11 dX1_numberOfPlane_105 (by decide) ?_
          refine y_lsub C [6, 7, 8, 3, 2, 1, 0] (lv' := [(0, .ref h), (1, .int (zI q)), (2, .int (zI wh)), (3, .int (zI (n1 + 1))), (4, .int (zI (n2 + 1))), (5, .int (zI (n3 + 1))), (6, .int (zI (c + 1)))]) rfl ?_
          exact ih11 (n1 + 1) (n2 + 1) (n3 + 1) (c + 1) (by omega) (by refine ⟨?_, by omega, by omega⟩; exact zcnt_step (by omega) h1.1 (by omega)) (by refine ⟨?_, by omega, by omega⟩; exact zcnt_step (by omega) h2.1 (by omega)) (by refine ⟨?_, by omega, by omega⟩; exact zcnt_step (by omega) h3.1 (by omega)) (by omega)

set_option maxHeartbeats 4000000 in
set_option maxRecDepth 100000 in
theorem m_X1_placesSeenAs {l : Launch} {D : va_G} {cA cB : ClassId} {h a0 a1 a2 a3 a4 a5 : Nat} {per win cr : Int} {g e0 e1 e2 e3 e4 e5 : Nat} {per2 win2 cr2 : Int} {sn sm : Int → Int} (hsn : ∀ k : Int, 0 ≤ k → k < 32 → -4 ≤ sn k ∧ sn k ≤ 4) (hsm : ∀ k : Int, 0 ≤ k → k < 32 → -4 ≤ sm k ∧ sm k ≤ 4) : MI l yX1_placesSeenAs cX1_placesSeenAs 4 .int { frames := 0, cells := 0, slots := 0, locals := 0 } D (zT cA cB) [.ref h, .ref g] [cO h 1 [.ref a0, .ref a1, .ref a2, .ref a3, .ref a4, .ref a5, .int (zI per), .int (zI win), .int (zI cr)], cI cA a3 32 sn, cO g 1 [.ref e0, .ref e1, .ref e2, .ref e3, .ref e4, .ref e5, .int (zI per2), .int (zI win2), .int (zI cr2)], cI cA e3 32 sm] (fun r w => w = [cO h 1 [.ref a0, .ref a1, .ref a2, .ref a3, .ref a4, .ref a5, .int (zI per), .int (zI win), .int (zI cr)], cI cA a3 32 sn, cO g 1 [.ref e0, .ref e1, .ref e2, .ref e3, .ref e4, .ref e5, .int (zI per2), .int (zI win2), .int (zI cr2)], cI cA e3 32 sm] ∧ r = zcnt (fun k => sn k = sm k) 32 ∧ 0 ≤ r ∧ r ≤ 32) := by
  refine MI.of RX1 ⟨rfl, by decide +kernel⟩ (Or.inl rfl) (Nat.le_of_ble_eq_true rfl) (fun h => by cases h) ?_
  intro K C hret
  change K 0 0 _ [(0, .ref h), (1, .ref g)] 0 []
  refine y_iconst C dX1_placesSeenAs_0 ?_
  refine y_istore_n C [(2, .int (zI 0)), (0, .ref h), (1, .ref g)] dX1_placesSeenAs_1 (by decide) rfl ?_
  refine y_iconst C dX1_placesSeenAs_2 ?_
  refine y_istore_n C [(3, .int (zI 0)), (2, .int (zI 0)), (0, .ref h), (1, .ref g)] dX1_placesSeenAs_3 (by decide) rfl ?_
  refine y_lsub C [2, 3, 1, 0] (lv' := [(0, .ref h), (1, .ref g), (2, .int (zI 0)), (3, .int (zI 0))]) rfl ?_
  suffices hL4 : ∀ (fu : Nat) (n : Int) (c : Int), (0 ≤ c ∧ c ≤ 32) → (n = zcnt (fun k => sn k = sm k) c ∧ 0 ≤ n ∧ n ≤ c) → (32 - c).toNat < fu → K 0 0 [cO h 1 [.ref a0, .ref a1, .ref a2, .ref a3, .ref a4, .ref a5, .int (zI per), .int (zI win), .int (zI cr)], cI cA a3 32 sn, cO g 1 [.ref e0, .ref e1, .ref e2, .ref e3, .ref e4, .ref e5, .int (zI per2), .int (zI win2), .int (zI cr2)], cI cA e3 32 sm] [(0, .ref h), (1, .ref g), (2, .int (zI n)), (3, .int (zI c))] 4 [] from hL4 _ 0 0 (by omega) (by exact ⟨rfl, by omega, by omega⟩) (Nat.lt_succ_self _)
  intro f4
  induction f4 with
  | zero => exact fun _ _ _ _ hf => absurd hf (Nat.not_lt_zero _)
  | succ f4 ih4 =>
    intro n c hc hn hf4
    refine y_iload_n C 3 dX1_placesSeenAs_4 rfl ?_
    refine y_bipush C dX1_placesSeenAs_5 (by decide +kernel) ?_
    refine y_icmp_ge C 34 dX1_placesSeenAs_7 (by decide) ⟨⟨by omega, by omega⟩, ⟨by omega, by omega⟩⟩ (fun c_1 => ?_) (fun c_1 => ?_)
    · refine y_iload_n C 2 dX1_placesSeenAs_34 rfl ?_
      refine hret _ _ _ _ dX1_placesSeenAs_35 ⟨rfl, ?_⟩
      show n = zcnt (fun k => sn k = sm k) 32 ∧ 0 ≤ n ∧ n ≤ 32
      obtain rfl : c = 32 := by omega
      exact hn
    · refine y_aload_n C 0 dX1_placesSeenAs_10 rfl ?_
      refine y_get C fg_X1_21 0 dX1_placesSeenAs_11 rfl rfl ?_
      refine y_iload_n C 3 dX1_placesSeenAs_14 rfl ?_
      refine y_iald C 1 0 dX1_placesSeenAs_15 rfl rfl ⟨by omega, by omega, by omega⟩ ?_
      have g_2 := hsn c (by omega) (by omega)
      refine y_aload_n C 1 dX1_placesSeenAs_16 rfl ?_
      refine y_get C fg_X1_21 2 dX1_placesSeenAs_17 rfl rfl ?_
      refine y_iload_n C 3 dX1_placesSeenAs_20 rfl ?_
      refine y_iald C 3 0 dX1_placesSeenAs_21 rfl rfl ⟨by omega, by omega, by omega⟩ ?_
      have g_3 := hsm c (by omega) (by omega)
      refine y_icmp_ne C 28 dX1_placesSeenAs_22 (by decide) ⟨⟨by omega, by omega⟩, ⟨by omega, by omega⟩⟩ (fun c_4 => ?_) (fun c_4 => ?_)
      · refine y_iinc C 3 [(3, .int (zI (c + 1))), (0, .ref h), (1, .ref g), (2, .int (zI n))] dX1_placesSeenAs_28 rfl (by decide) rfl ?_
        refine y_goto C 4 dX1_placesSeenAs_31 (by decide) ?_
        refine y_lsub C [1, 2, 3, 0] (lv' := [(0, .ref h), (1, .ref g), (2, .int (zI n)), (3, .int (zI (c + 1)))]) rfl ?_
        exact ih4 n (c + 1) (by omega) (by refine ⟨?_, by omega, by omega⟩; exact zcnt_step (by omega) hn.1 (by omega)) (by omega)
      · refine y_iinc C 2 [(2, .int (zI (n + 1))), (0, .ref h), (1, .ref g), (3, .int (zI c))] dX1_placesSeenAs_25 rfl (by decide) rfl ?_
        refine y_iinc C 3 [(3, .int (zI (c + 1))), (2, .int (zI (n + 1))), (0, .ref h), (1, .ref g)] dX1_placesSeenAs_28 rfl (by decide) rfl ?_
        refine y_goto C 4 dX1_placesSeenAs_31 (by decide) ?_
        refine y_lsub C [2, 3, 1, 0] (lv' := [(0, .ref h), (1, .ref g), (2, .int (zI (n + 1))), (3, .int (zI (c + 1)))]) rfl ?_
        exact ih4 (n + 1) (c + 1) (by omega) (by refine ⟨?_, by omega, by omega⟩; exact zcnt_step (by omega) hn.1 (by omega)) (by omega)

set_option maxHeartbeats 4000000 in
set_option maxRecDepth 100000 in
theorem m_X1_farthestSeenOtherwise {l : Launch} {D : va_G} {cA cB : ClassId} {h a0 a1 a2 a3 a4 a5 : Nat} {per win cr : Int} {g e0 e1 e2 e3 e4 e5 : Nat} {per2 win2 cr2 : Int} {sn sm : Int → Int} {a : Int} (ha : 0 ≤ a ∧ a < 32) (hsn : ∀ k : Int, 0 ≤ k → k < 32 → -4 ≤ sn k ∧ sn k ≤ 4) (hsm : ∀ k : Int, 0 ≤ k → k < 32 → -4 ≤ sm k ∧ sm k ≤ 4) : MI l yX1_farthestSeenOtherwise cX1_farthestSeenOtherwise 5 .int { frames := 1, cells := 0, slots := 0, locals := 17 } D (zT cA cB) [.ref h, .ref g, .int (zI a)] [cO h 1 [.ref a0, .ref a1, .ref a2, .ref a3, .ref a4, .ref a5, .int (zI per), .int (zI win), .int (zI cr)], cI cA a3 32 sn, cO g 1 [.ref e0, .ref e1, .ref e2, .ref e3, .ref e4, .ref e5, .int (zI per2), .int (zI win2), .int (zI cr2)], cI cA e3 32 sm] (fun r w => w = [cO h 1 [.ref a0, .ref a1, .ref a2, .ref a3, .ref a4, .ref a5, .int (zI per), .int (zI win), .int (zI cr)], cI cA a3 32 sn, cO g 1 [.ref e0, .ref e1, .ref e2, .ref e3, .ref e4, .ref e5, .int (zI per2), .int (zI win2), .int (zI cr2)], cI cA e3 32 sm] ∧ r = farZ sn sm a 32 ∧ -4 ≤ r ∧ r ≤ 31) := by
  refine MI.of RX1 ⟨rfl, by decide +kernel⟩ (Or.inl rfl) (Nat.le_of_ble_eq_true rfl) (fun h => by cases h) ?_
  intro K C hret
  change K 0 0 _ [(0, .ref h), (1, .ref g), (2, .int (zI a))] 0 []
  refine y_bipush C dX1_farthestSeenOtherwise_0 (by decide +kernel) ?_
  refine y_istore_n C [(3, .int (zI (-4))), (0, .ref h), (1, .ref g), (2, .int (zI a))] dX1_farthestSeenOtherwise_2 (by decide) rfl ?_
  refine y_iconst C dX1_farthestSeenOtherwise_3 ?_
  refine y_istore C [(4, .int (zI 0)), (3, .int (zI (-4))), (0, .ref h), (1, .ref g), (2, .int (zI a))] dX1_farthestSeenOtherwise_4 (by decide) rfl ?_
  refine y_lsub C [2, 3, 4, 1, 0] (lv' := [(0, .ref h), (1, .ref g), (2, .int (zI a)), (3, .int (zI (-4))), (4, .int (zI 0))]) rfl ?_
  suffices hL6 : ∀ (fu : Nat) (n : Int) (c : Int), (0 ≤ c ∧ c ≤ 32) → (n = farZ sn sm a c ∧ -4 ≤ n ∧ n ≤ 31) → (32 - c).toNat < fu → K 0 0 [cO h 1 [.ref a0, .ref a1, .ref a2, .ref a3, .ref a4, .ref a5, .int (zI per), .int (zI win), .int (zI cr)], cI cA a3 32 sn, cO g 1 [.ref e0, .ref e1, .ref e2, .ref e3, .ref e4, .ref e5, .int (zI per2), .int (zI win2), .int (zI cr2)], cI cA e3 32 sm] [(0, .ref h), (1, .ref g), (2, .int (zI a)), (3, .int (zI n)), (4, .int (zI c))] 6 [] from hL6 _ (-4) 0 (by omega) (by exact ⟨rfl, by omega, by omega⟩) (Nat.lt_succ_self _)
  intro f6
  induction f6 with
  | zero => exact fun _ _ _ _ hf => absurd hf (Nat.not_lt_zero _)
  | succ f6 ih6 =>
    intro n c hc hn hf6
    refine y_iload C 4 dX1_farthestSeenOtherwise_6 rfl ?_
    refine y_bipush C dX1_farthestSeenOtherwise_8 (by decide +kernel) ?_
    refine y_icmp_ge C 48 dX1_farthestSeenOtherwise_10 (by decide) ⟨⟨by omega, by omega⟩, ⟨by omega, by omega⟩⟩ (fun c_1 => ?_) (fun c_1 => ?_)
    · refine y_iload_n C 3 dX1_farthestSeenOtherwise_48 rfl ?_
      refine hret _ _ _ _ dX1_farthestSeenOtherwise_49 ⟨rfl, ?_⟩
      show n = farZ sn sm a 32 ∧ -4 ≤ n ∧ n ≤ 31
      obtain rfl : c = 32 := by omega
      exact hn
    · refine y_aload_n C 0 dX1_farthestSeenOtherwise_13 rfl ?_
      refine y_get C fg_X1_21 0 dX1_farthestSeenOtherwise_14 rfl rfl ?_
      refine y_iload C 4 dX1_farthestSeenOtherwise_17 rfl ?_
      refine y_iald C 1 0 dX1_farthestSeenOtherwise_19 rfl rfl ⟨by omega, by omega, by omega⟩ ?_
      have g_2 := hsn c (by omega) (by omega)
      refine y_aload_n C 1 dX1_farthestSeenOtherwise_20 rfl ?_
      refine y_get C fg_X1_21 2 dX1_farthestSeenOtherwise_21 rfl rfl ?_
      refine y_iload C 4 dX1_farthestSeenOtherwise_24 rfl ?_
      refine y_iald C 3 0 dX1_farthestSeenOtherwise_26 rfl rfl ⟨by omega, by omega, by omega⟩ ?_
      have g_3 := hsm c (by omega) (by omega)
      refine y_icmp_eq C 42 dX1_farthestSeenOtherwise_27 (by decide) ⟨⟨by omega, by omega⟩, ⟨by omega, by omega⟩⟩ (fun c_4 => ?_) (fun c_4 => ?_)
      · refine y_iinc C 4 [(4, .int (zI (c + 1))), (0, .ref h), (1, .ref g), (2, .int (zI a)), (3, .int (zI n))] dX1_farthestSeenOtherwise_42 rfl (by decide) rfl ?_
        refine y_goto C 6 dX1_farthestSeenOtherwise_45 (by decide) ?_
        refine y_lsub C [1, 2, 3, 4, 0] (lv' := [(0, .ref h), (1, .ref g), (2, .int (zI a)), (3, .int (zI n)), (4, .int (zI (c + 1)))]) rfl ?_
        exact ih6 n (c + 1) (by omega) (by refine ⟨?_, by omega, by omega⟩; rw [farZ_s sn sm a (by omega)]; first | (rw [if_pos (by omega)]; exact hn.1) | (rw [if_neg (by omega), ← hn.1]; omega)) (by omega)
      · refine y_iload_n C 3 dX1_farthestSeenOtherwise_30 rfl ?_
        refine y_iload C 4 dX1_farthestSeenOtherwise_31 rfl ?_
        refine y_iload_n C 2 dX1_farthestSeenOtherwise_33 rfl ?_
        refine y_isub C dX1_farthestSeenOtherwise_34 ?_
        refine y_abs C lk_X1_122 dX1_farthestSeenOtherwise_35 ⟨by omega, by omega⟩ ⟨by exact Nat.le_of_ble_eq_true rfl, by exact Nat.le_of_ble_eq_true rfl, by exact Nat.le_of_ble_eq_true rfl, by exact Nat.le_of_ble_eq_true rfl⟩ (fun z_6 m_5 => ?_)
        refine y_max C lk_X1_99 dX1_farthestSeenOtherwise_38 ⟨⟨by omega, by omega⟩, ⟨by omega, by omega⟩⟩ ⟨by exact Nat.le_of_ble_eq_true rfl, by exact Nat.le_of_ble_eq_true rfl, by exact Nat.le_of_ble_eq_true rfl, by exact Nat.le_of_ble_eq_true rfl⟩ (fun z_8 m_7 => ?_)
        refine y_istore_n C [(3, .int (zI z_8)), (0, .ref h), (1, .ref g), (2, .int (zI a)), (4, .int (zI c))] dX1_farthestSeenOtherwise_41 (by decide) rfl ?_
        refine y_iinc C 4 [(4, .int (zI (c + 1))), (3, .int (zI z_8)), (0, .ref h), (1, .ref g), (2, .int (zI a))] dX1_farthestSeenOtherwise_42 rfl (by decide) rfl ?_
        refine y_goto C 6 dX1_farthestSeenOtherwise_45 (by decide) ?_
        refine y_lsub C [2, 3, 4, 1, 0] (lv' := [(0, .ref h), (1, .ref g), (2, .int (zI a)), (3, .int (zI z_8)), (4, .int (zI (c + 1)))]) rfl ?_
        exact ih6 z_8 (c + 1) (by omega) (by refine ⟨?_, by omega, by omega⟩; rw [farZ_s sn sm a (by omega)]; first | (rw [if_pos (by omega)]; exact hn.1) | (rw [if_neg (by omega), ← hn.1]; omega)) (by omega)

set_option maxHeartbeats 4000000 in
set_option maxRecDepth 100000 in
theorem m_X1_printFrom {l : Launch} {D : va_G} {cA cB : ClassId} {h a0 a1 a2 a3 a4 a5 : Nat} {per win cr : Int} {s b0 b1 b2 b3 b4 : Nat} {len lot : Int} {p d S T : Int → Int} (hper : 6 ≤ per ∧ per ≤ 16) (hp : ∀ k : Int, 0 ≤ k → k < 32 → 0 ≤ p k ∧ p k ≤ 4) (hd : ∀ k : Int, 0 ≤ k → k < 32 → 0 ≤ d k ∧ d k ≤ 7) (hlen : 0 ≤ len ∧ len ≤ 24) (hlot : 0 ≤ lot ∧ lot ≤ 9999) (hT : ∀ k : Int, 0 ≤ k → k < 24 → 0 ≤ T k ∧ T k ≤ 7) (hS : (6 ≤ S 0 ∧ S 0 ≤ 16) ∧ (2 ≤ S 1 ∧ S 1 ≤ 8) ∧ (0 ≤ S 2 ∧ S 2 ≤ 3) ∧ (0 ≤ S 3 ∧ S 3 ≤ 1) ∧ (20 ≤ S 4 ∧ S 4 ≤ 99) ∧ (10 ≤ S 5 ∧ S 5 ≤ 400)) : MI l yX1_printFrom cX1_printFrom 7 .int { frames := 1, cells := 0, slots := 0, locals := 22 } D (zT cA cB) [.ref h, .ref s] [cO h 1 [.ref a0, .ref a1, .ref a2, .ref a3, .ref a4, .ref a5, .int (zI per), .int (zI win), .int (zI cr)], cI cA a0 32 p, cI cA a1 32 d, cO s 4 [.ref b0, .ref b1, .ref b2, .ref b3, .ref b4, .int (zI len), .int (zI lot)], cI cA b3 6 S, cI cA b4 24 T] (fun r w => ∃ (d2 : Int → Int), w = [cO h 1 [.ref a0, .ref a1, .ref a2, .ref a3, .ref a4, .ref a5, .int (zI per), .int (zI win), .int (zI cr)], cI cA a0 32 p, cI cA a1 32 d2, cO s 4 [.ref b0, .ref b1, .ref b2, .ref b3, .ref b4, .int (zI len), .int (zI lot)], cI cA b3 6 S, cI cA b4 24 T] ∧ (r = (prZ per p d T len (S 1) lot 32).2.2) ∧ (0 ≤ r ∧ r ≤ 9999) ∧ (d2 = (prZ per p d T len (S 1) lot 32).1) ∧ (∀ k : Int, 0 ≤ k → k < 32 → 0 ≤ d2 k ∧ d2 k ≤ 7)) := by
  refine MI.of RX1 ⟨rfl, by decide +kernel⟩ (Or.inl rfl) (Nat.le_of_ble_eq_true rfl) (fun h => by cases h) ?_
  intro K C hret
  change K 0 0 _ [(0, .ref h), (1, .ref s)] 0 []
  refine y_aload_n C 1 dX1_printFrom_0 rfl ?_
  refine y_get C fg_X1_79 3 dX1_printFrom_1 rfl rfl ?_
  refine y_istore_n C [(2, .int (zI lot)), (0, .ref h), (1, .ref s)] dX1_printFrom_4 (by decide) rfl ?_
  refine y_iconst C dX1_printFrom_5 ?_
  refine y_istore_n C [(3, .int (zI 0)), (2, .int (zI lot)), (0, .ref h), (1, .ref s)] dX1_printFrom_6 (by decide) rfl ?_
  refine y_iconst C dX1_printFrom_7 ?_
  refine y_istore C [(4, .int (zI 0)), (3, .int (zI 0)), (2, .int (zI lot)), (0, .ref h), (1, .ref s)] dX1_printFrom_8 (by decide) rfl ?_
  refine y_lsub C [3, 4, 2, 1, 0] (lv' := [(0, .ref h), (1, .ref s), (2, .int (zI lot)), (3, .int (zI 0)), (4, .int (zI 0))]) rfl ?_
  suffices hL10 : ∀ (fu : Nat) (lo : Int) (nx : Int) (c : Int) (d1 : Int → Int), (0 ≤ c ∧ c ≤ 32) → (d1 = (prZ per p d T len (S 1) lot c).1) → (lo = (prZ per p d T len (S 1) lot c).2.2 ∧ 0 ≤ lo ∧ lo ≤ 9999) → ((0 < len → nx = (prZ per p d T len (S 1) lot c).2.1 % len ∧ nx < len) ∧ 0 ≤ nx ∧ nx ≤ 23) → (∀ k : Int, 0 ≤ k → k < 32 → 0 ≤ d1 k ∧ d1 k ≤ 7) → (32 - c).toNat < fu → K 0 0 [cO h 1 [.ref a0, .ref a1, .ref a2, .ref a3, .ref a4, .ref a5, .int (zI per), .int (zI win), .int (zI cr)], cI cA a0 32 p, cI cA a1 32 d1, cO s 4 [.ref b0, .ref b1, .ref b2, .ref b3, .ref b4, .int (zI len), .int (zI lot)], cI cA b3 6 S, cI cA b4 24 T] [(0, .ref h), (1, .ref s), (2, .int (zI lo)), (3, .int (zI nx)), (4, .int (zI c))] 10 [] from hL10 _ lot 0 0 d (by omega) (by rfl) (by exact ⟨rfl, by omega, by omega⟩) (by exact ⟨fun _ => ⟨(Int.zero_emod len).symm, by omega⟩, by omega, by omega⟩) (by exact hd) (Nat.lt_succ_self _)
  intro f10
  induction f10 with
  | zero => exact fun _ _ _ _ _ _ _ _ _ hf => absurd hf (Nat.not_lt_zero _)
  | succ f10 ih10 =>
    intro lo nx c d1 hc he hlo hnx hd1 hf10
    refine y_iload C 4 dX1_printFrom_10 rfl ?_
    refine y_bipush C dX1_printFrom_12 (by decide +kernel) ?_
    refine y_icmp_ge C 138 dX1_printFrom_14 (by decide) ⟨⟨by omega, by omega⟩, ⟨by omega, by omega⟩⟩ (fun c_1 => ?_) (fun c_1 => ?_)
    · refine y_iload_n C 2 dX1_printFrom_138 rfl ?_
      refine hret _ _ _ _ dX1_printFrom_139 ⟨d1, rfl, ?_⟩
      show (lo = (prZ per p d T len (S 1) lot 32).2.2) ∧ (0 ≤ lo ∧ lo ≤ 9999) ∧ (d1 = (prZ per p d T len (S 1) lot 32).1) ∧ (∀ k : Int, 0 ≤ k → k < 32 → 0 ≤ d1 k ∧ d1 k ≤ 7)
      obtain rfl : c = 32 := by omega
      exact ⟨hlo.1, hlo.2, he, hd1⟩
    · refine y_aload_n C 0 dX1_printFrom_17 rfl ?_
      refine y_iload C 4 dX1_printFrom_18 rfl ?_
      refine y_pcall C (m_X1_boundTo (l := l) (D := D) (cA := cA) (cB := cB) (h := h) (a0 := a0) (a1 := a1) (a2 := a2) (a3 := a3) (a4 := a4) (a5 := a5) (per := per) (win := win) (cr := cr) (p := p) (c := c) (by first | assumption | omega | exact ⟨by omega, by omega⟩) (by first | assumption | omega | exact ⟨by omega, by omega⟩) (by first | assumption | omega | exact ⟨by omega, by omega⟩)) lk_X1_82 [0, 1] [2, 3, 4, 5] [4, 5, 0, 1, 2, 3] ⟨rfl, rfl, by decide, by decide, by decide⟩ ⟨rfl, by decide⟩ rfl rfl dX1_printFrom_20 rfl rfl ⟨by exact Nat.le_of_ble_eq_true rfl, by exact Nat.le_of_ble_eq_true rfl, rfl, rfl, by exact Nat.le_of_ble_eq_true rfl, by exact Nat.le_of_ble_eq_true rfl, by exact Nat.le_of_ble_eq_true rfl⟩ (fun r_3 h_2 => ?_)
      have hz := h_2
      refine y_istore C [(5, .int (zI r_3)), (0, .ref h), (1, .ref s), (2, .int (zI lo)), (3, .int (zI nx)), (4, .int (zI c))] dX1_printFrom_23 (by decide) rfl ?_
      refine y_iload C 0 dX1_printFrom_25 rfl ?_
      refine y_bipush C dX1_printFrom_27 (by decide +kernel) ?_
      refine y_icmp_eq C 49 dX1_printFrom_29 (by decide) ⟨⟨by omega, by omega⟩, ⟨by omega, by omega⟩⟩ (fun c_4 => ?_) (fun c_4 => ?_)
      · refine y_aload_n C 2 dX1_printFrom_49 rfl ?_
        refine y_get C fg_X1_86 3 dX1_printFrom_50 rfl rfl ?_
        refine y_if_le C 90 dX1_printFrom_53 (by decide) ⟨by omega, by omega⟩ (fun c_5 => ?_) (fun c_5 => ?_)
        · have hst := prZ_s per p d T len (S 1) lot (show 0 ≤ c from hc.1)
          rw [if_neg (by omega), if_neg (by omega), ← hlo.1] at hst
          refine y_sipush C dX1_printFrom_90 (by decide +kernel) ?_
          refine y_iload_n C 3 dX1_printFrom_93 rfl ?_
          refine y_imul C dX1_printFrom_94 ?_
          refine y_sipush C dX1_printFrom_95 (by decide +kernel) ?_
          refine y_iadd C dX1_printFrom_98 ?_
          refine y_sipush C dX1_printFrom_99 (by decide +kernel) ?_
          refine y_irem C dX1_printFrom_102 ⟨by omega, by omega, by omega, by omega⟩ ?_
          refine y_istore_n C [(2, .int (zI (((421 * lo) + 1663) % 10000))), (5, .int (zI r_3)), (0, .ref h), (1, .ref s), (3, .int (zI nx)), (4, .int (zI c))] dX1_printFrom_103 (by decide) rfl ?_
          refine y_aload_n C 3 dX1_printFrom_104 rfl ?_
          refine y_get C fg_X1_45 3 dX1_printFrom_105 rfl rfl ?_
          refine y_iconst C dX1_printFrom_108 ?_
          refine y_iald C 4 0 dX1_printFrom_109 rfl rfl ⟨by omega, by omega, by omega⟩ ?_
          refine y_istore C [(6, .int (zI (S 1))), (2, .int (zI (((421 * lo) + 1663) % 10000))), (5, .int (zI r_3)), (0, .ref h), (1, .ref s), (3, .int (zI nx)), (4, .int (zI c))] dX1_printFrom_110 (by decide) rfl ?_
          refine y_aload_n C 3 dX1_printFrom_112 rfl ?_
          refine y_get C fg_X1_15 0 dX1_printFrom_113 rfl rfl ?_
          refine y_iload C 6 dX1_printFrom_116 rfl ?_
          refine y_iload C 0 dX1_printFrom_118 rfl ?_
          refine y_if_le C 130 dX1_printFrom_120 (by decide) ⟨by omega, by omega⟩ (fun c_6 => False.elim (by omega)) (fun c_6 => ?_)
          have hmr := zmod_r (((421 * lo) + 1663) % 10000) (b := S 1) (by omega)
          refine y_iload_n C 1 dX1_printFrom_123 rfl ?_
          refine y_iload C 0 dX1_printFrom_124 rfl ?_
          refine y_irem C dX1_printFrom_126 ⟨by omega, by omega, by omega, by omega⟩ ?_
          refine y_goto C 131 dX1_printFrom_127 (by decide) ?_
          refine y_iast C 2 0 [cO h 1 [.ref a0, .ref a1, .ref a2, .ref a3, .ref a4, .ref a5, .int (zI per), .int (zI win), .int (zI cr)], cI cA a0 32 p, cI cA a1 32 (zU d1 c ((((421 * lo) + 1663) % 10000) % (S 1))), cO s 4 [.ref b0, .ref b1, .ref b2, .ref b3, .ref b4, .int (zI len), .int (zI lot)], cI cA b3 6 S, cI cA b4 24 T] dX1_printFrom_131 rfl rfl ⟨by omega, by omega, by omega⟩ rfl ?_
          refine y_iinc C 6 [(4, .int (zI (c + 1))), (6, .int (zI (S 1))), (2, .int (zI (((421 * lo) + 1663) % 10000))), (5, .int (zI r_3)), (0, .ref h), (1, .ref s), (3, .int (zI nx))] dX1_printFrom_132 rfl (by decide) rfl ?_
          refine y_goto C 10 dX1_printFrom_135 (by decide) ?_
          refine y_lsub C [4, 5, 2, 6, 0] (lv' := [(0, .ref h), (1, .ref s), (2, .int (zI (((421 * lo) + 1663) % 10000))), (3, .int (zI nx)), (4, .int (zI (c + 1)))]) rfl ?_
          exact ih10 (((421 * lo) + 1663) % 10000) nx (c + 1) (zU d1 c ((((421 * lo) + 1663) % 10000) % (S 1))) (by omega) (by rw [hst, ← he]) (by rw [hst]; first | exact hlo | exact ⟨rfl, by omega, by omega⟩) (by rw [hst]; first | exact hnx | exact hnxs | exact hnx) (by intro k h1 h2; exact (Classical.em (k = c)).elim (fun e => by rw [e, zU_s]; omega) (fun e => by rw [zU_n e]; exact hd1 k h1 h2)) (by omega)
        · have hst := prZ_s per p d T len (S 1) lot (show 0 ≤ c from hc.1)
          rw [if_neg (by omega), if_pos (by omega), ← (hnx.1 (by omega)).1] at hst
          have hnx2 := hnx.1 (by omega)
          have hms := zmod_s (a := (prZ per p d T len (S 1) lot c).2.1) (b := len) (by omega)
          rw [← hnx2.1] at hms
          refine y_aload_n C 1 dX1_printFrom_56 rfl ?_
          refine y_get C fg_X1_15 0 dX1_printFrom_57 rfl rfl ?_
          refine y_iload C 5 dX1_printFrom_60 rfl ?_
          refine y_aload_n C 2 dX1_printFrom_62 rfl ?_
          refine y_get C fg_X1_89 3 dX1_printFrom_63 rfl rfl ?_
          refine y_iload_n C 4 dX1_printFrom_66 rfl ?_
          refine y_iald C 5 0 dX1_printFrom_67 rfl rfl ⟨by omega, by omega, by omega⟩ ?_
          have g_7 := hT nx (by omega) (by omega)
          refine y_iast C 2 0 [cO h 1 [.ref a0, .ref a1, .ref a2, .ref a3, .ref a4, .ref a5, .int (zI per), .int (zI win), .int (zI cr)], cI cA a0 32 p, cI cA a1 32 (zU d1 c (T nx)), cO s 4 [.ref b0, .ref b1, .ref b2, .ref b3, .ref b4, .int (zI len), .int (zI lot)], cI cA b3 6 S, cI cA b4 24 T] dX1_printFrom_68 rfl rfl ⟨by omega, by omega, by omega⟩ rfl ?_
          refine y_iload_n C 4 dX1_printFrom_69 rfl ?_
          refine y_iconst C dX1_printFrom_70 ?_
          refine y_iadd C dX1_printFrom_71 ?_
          refine y_aload_n C 2 dX1_printFrom_72 rfl ?_
          refine y_get C fg_X1_86 3 dX1_printFrom_73 rfl rfl ?_
          refine y_icmp_ge C 85 dX1_printFrom_76 (by decide) ⟨⟨by omega, by omega⟩, ⟨by omega, by omega⟩⟩ (fun c_8 => ?_) (fun c_8 => ?_)
          · refine y_iconst C dX1_printFrom_85 ?_
            have hnxs : (0 < len → (0 : Int) = ((prZ per p d T len (S 1) lot c).2.1 + 1) % len ∧ (0 : Int) < len) ∧ 0 ≤ (0 : Int) ∧ (0 : Int) ≤ 23 := ⟨fun _ => ⟨by rw [hms]; first | rw [if_pos (by omega)] | rw [if_neg (by omega)], by omega⟩, by omega, by omega⟩
            refine y_istore_n C [(3, .int (zI 0)), (5, .int (zI r_3)), (0, .ref h), (1, .ref s), (2, .int (zI lo)), (4, .int (zI c))] dX1_printFrom_86 (by decide) rfl ?_
            refine y_goto C 132 dX1_printFrom_87 (by decide) ?_
            refine y_iinc C 5 [(4, .int (zI (c + 1))), (3, .int (zI 0)), (5, .int (zI r_3)), (0, .ref h), (1, .ref s), (2, .int (zI lo))] dX1_printFrom_132 rfl (by decide) rfl ?_
            refine y_goto C 10 dX1_printFrom_135 (by decide) ?_
            refine y_lsub C [3, 4, 5, 1, 0] (lv' := [(0, .ref h), (1, .ref s), (2, .int (zI lo)), (3, .int (zI 0)), (4, .int (zI (c + 1)))]) rfl ?_
            exact ih10 lo 0 (c + 1) (zU d1 c (T nx)) (by omega) (by rw [hst, ← he]) (by rw [hst]; first | exact hlo | exact ⟨rfl, by omega, by omega⟩) (by rw [hst]; first | exact hnx | exact hnxs | exact hnx) (by intro k h1 h2; exact (Classical.em (k = c)).elim (fun e => by rw [e, zU_s]; omega) (fun e => by rw [zU_n e]; exact hd1 k h1 h2)) (by omega)
          · refine y_iload_n C 4 dX1_printFrom_79 rfl ?_
            refine y_iconst C dX1_printFrom_80 ?_
            refine y_iadd C dX1_printFrom_81 ?_
            refine y_goto C 86 dX1_printFrom_82 (by decide) ?_
            have hnxs : (0 < len → (nx + 1) = ((prZ per p d T len (S 1) lot c).2.1 + 1) % len ∧ (nx + 1) < len) ∧ 0 ≤ (nx + 1) ∧ (nx + 1) ≤ 23 := ⟨fun _ => ⟨by rw [hms]; first | rw [if_pos (by omega)] | rw [if_neg (by omega)], by omega⟩, by omega, by omega⟩
            refine y_istore_n C [(3, .int (zI (nx + 1))), (5, .int (zI r_3)), (0, .ref h), (1, .ref s), (2, .int (zI lo)), (4, .int (zI c))] dX1_printFrom_86 (by decide) rfl ?_
            refine y_goto C 132 dX1_printFrom_87 (by decide) ?_
            refine y_iinc C 5 [(4, .int (zI (c + 1))), (3, .int (zI (nx + 1))), (5, .int (zI r_3)), (0, .ref h), (1, .ref s), (2, .int (zI lo))] dX1_printFrom_132 rfl (by decide) rfl ?_
            refine y_goto C 10 dX1_printFrom_135 (by decide) ?_
            refine y_lsub C [3, 4, 5, 1, 0] (lv' := [(0, .ref h), (1, .ref s), (2, .int (zI lo)), (3, .int (zI (nx + 1))), (4, .int (zI (c + 1)))]) rfl ?_
            exact ih10 lo (nx + 1) (c + 1) (zU d1 c (T nx)) (by omega) (by rw [hst, ← he]) (by rw [hst]; first | exact hlo | exact ⟨rfl, by omega, by omega⟩) (by rw [hst]; first | exact hnx | exact hnxs | exact hnx) (by intro k h1 h2; exact (Classical.em (k = c)).elim (fun e => by rw [e, zU_s]; omega) (fun e => by rw [zU_n e]; exact hd1 k h1 h2)) (by omega)
      · have hst := prZ_s per p d T len (S 1) lot (show 0 ≤ c from hc.1)
        rw [if_pos (by omega), ← hz.1] at hst
        refine y_aload_n C 1 dX1_printFrom_32 rfl ?_
        refine y_get C fg_X1_15 0 dX1_printFrom_33 rfl rfl ?_
        refine y_iload C 5 dX1_printFrom_36 rfl ?_
        refine y_aload_n C 1 dX1_printFrom_38 rfl ?_
        refine y_get C fg_X1_15 0 dX1_printFrom_39 rfl rfl ?_
        refine y_iload C 0 dX1_printFrom_42 rfl ?_
        refine y_iald C 2 0 dX1_printFrom_44 rfl rfl ⟨by omega, by omega, by omega⟩ ?_
        have g_9 := hd1 r_3 (by omega) (by omega)
        refine y_iast C 2 0 [cO h 1 [.ref a0, .ref a1, .ref a2, .ref a3, .ref a4, .ref a5, .int (zI per), .int (zI win), .int (zI cr)], cI cA a0 32 p, cI cA a1 32 (zU d1 c (d1 r_3)), cO s 4 [.ref b0, .ref b1, .ref b2, .ref b3, .ref b4, .int (zI len), .int (zI lot)], cI cA b3 6 S, cI cA b4 24 T] dX1_printFrom_45 rfl rfl ⟨by omega, by omega, by omega⟩ rfl ?_
        refine y_goto C 132 dX1_printFrom_46 (by decide) ?_
        refine y_iinc C 5 [(4, .int (zI (c + 1))), (5, .int (zI r_3)), (0, .ref h), (1, .ref s), (2, .int (zI lo)), (3, .int (zI nx))] dX1_printFrom_132 rfl (by decide) rfl ?_
        refine y_goto C 10 dX1_printFrom_135 (by decide) ?_
        refine y_lsub C [2, 3, 4, 5, 0] (lv' := [(0, .ref h), (1, .ref s), (2, .int (zI lo)), (3, .int (zI nx)), (4, .int (zI (c + 1)))]) rfl ?_
        exact ih10 lo nx (c + 1) (zU d1 c (d1 r_3)) (by omega) (by rw [hst, ← he]) (by rw [hst]; first | exact hlo | exact ⟨rfl, by omega, by omega⟩) (by rw [hst]; first | exact hnx | exact hnxs | exact hnx) (by intro k h1 h2; exact (Classical.em (k = c)).elim (fun e => by rw [e, zU_s]; omega) (fun e => by rw [zU_n e]; exact hd1 k h1 h2)) (by omega)
