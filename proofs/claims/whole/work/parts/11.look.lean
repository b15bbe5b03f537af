set_option maxHeartbeats 4000000 in
set_option maxRecDepth 100000 in
theorem m_X1_boundTo {l : Launch} {D : va_G} {cA cB : ClassId} {h a0 a1 a2 a3 a4 a5 : Nat} {per win cr : Int} {p : Int → Int} {c : Int} (hc : 0 ≤ c ∧ c < 32) (hper : 6 ≤ per ∧ per ≤ 16) (hp : ∀ k : Int, 0 ≤ k → k < 32 → 0 ≤ p k ∧ p k ≤ 4) : MI l yX1_boundTo cX1_boundTo 3 .int { frames := 0, cells := 0, slots := 0, locals := 0 } D (zT cA cB) [.ref h, .int (zI c)] [cO h 1 [.ref a0, .ref a1, .ref a2, .ref a3, .ref a4, .ref a5, .int (zI per), .int (zI win), .int (zI cr)], cI cA a0 32 p] (fun r w => w = [cO h 1 [.ref a0, .ref a1, .ref a2, .ref a3, .ref a4, .ref a5, .int (zI per), .int (zI win), .int (zI cr)], cI cA a0 32 p] ∧ r = zb per p c ∧ ((0 ≤ r ∧ r < c ∧ r = c - (per - p c)) ∨ (r = -4 ∧ c - (per - p c) < 0))) := by
  refine MI.of RX1 ⟨rfl, by decide +kernel⟩ (Or.inl rfl) (Nat.le_of_ble_eq_true rfl) (fun h => by cases h) ?_
  intro K C hret
  change K 0 0 _ [(0, .ref h), (1, .int (zI c))] 0 []
  refine y_iload_n C 1 dX1_boundTo_0 rfl ?_
  refine y_aload_n C 0 dX1_boundTo_1 rfl ?_
  refine y_get C fg_X1_48 0 dX1_boundTo_2 rfl rfl ?_
  refine y_aload_n C 0 dX1_boundTo_5 rfl ?_
  refine y_get C fg_X1_9 0 dX1_boundTo_6 rfl rfl ?_
  refine y_iload_n C 1 dX1_boundTo_9 rfl ?_
  refine y_iald C 1 0 dX1_boundTo_10 rfl rfl ⟨by omega, by omega, by omega⟩ ?_
  have g_1 := hp c (by omega) (by omega)
  refine y_isub C dX1_boundTo_11 ?_
  refine y_isub C dX1_boundTo_12 ?_
  refine y_istore_n C [(2, .int (zI (c - (per - (p c))))), (0, .ref h), (1, .int (zI c))] dX1_boundTo_13 (by decide) rfl ?_
  refine y_iload_n C 0 dX1_boundTo_14 rfl ?_
  refine y_if_lt C 27 dX1_boundTo_15 (by decide) ⟨by omega, by omega⟩ (fun c_2 => ?_) (fun c_2 => ?_)
  · refine y_bipush C dX1_boundTo_27 (by decide +kernel) ?_
    refine hret _ _ _ _ dX1_boundTo_29 ⟨rfl, ?_⟩
    show (-4) = zb per p c ∧ ((0 ≤ (-4) ∧ (-4) < c ∧ (-4) = c - (per - p c)) ∨ ((-4) = -4 ∧ c - (per - p c) < 0))
    first | exact ⟨(zb_b (by omega)).symm, by omega⟩ | exact ⟨(zb_f (by omega)).symm, by omega⟩
  · refine y_iload_n C 0 dX1_boundTo_18 rfl ?_
    refine y_iload_n C 2 dX1_boundTo_19 rfl ?_
    refine y_icmp_ge C 27 dX1_boundTo_20 (by decide) ⟨⟨by omega, by omega⟩, ⟨by omega, by omega⟩⟩ (fun c_3 => ?_) (fun c_3 => ?_)
    · refine y_bipush C dX1_boundTo_27 (by decide +kernel) ?_
      refine hret _ _ _ _ dX1_boundTo_29 ⟨rfl, ?_⟩
      show (-4) = zb per p c ∧ ((0 ≤ (-4) ∧ (-4) < c ∧ (-4) = c - (per - p c)) ∨ ((-4) = -4 ∧ c - (per - p c) < 0))
      first | exact ⟨(zb_b (by omega)).symm, by omega⟩ | exact ⟨(zb_f (by omega)).symm, by omega⟩
    · refine y_iload_n C 0 dX1_boundTo_23 rfl ?_
      refine y_goto C 29 dX1_boundTo_24 (by decide) ?_
      refine hret _ _ _ _ dX1_boundTo_29 ⟨rfl, ?_⟩
      show (c - (per - (p c))) = zb per p c ∧ ((0 ≤ (c - (per - (p c))) ∧ (c - (per - (p c))) < c ∧ (c - (per - (p c))) = c - (per - p c)) ∨ ((c - (per - (p c))) = -4 ∧ c - (per - p c) < 0))
      first | exact ⟨(zb_b (by omega)).symm, by omega⟩ | exact ⟨(zb_f (by omega)).symm, by omega⟩

set_option maxHeartbeats 4000000 in
set_option maxRecDepth 100000 in
theorem m_X1_isFitting {l : Launch} {D : va_G} {cA cB : ClassId} {h a0 a1 a2 a3 a4 a5 : Nat} {per win cr : Int} {d : Int → Int} {c q : Int} (hc : 0 ≤ c ∧ c < 32) (hq : 0 ≤ q ∧ q ≤ 4) (hper : 6 ≤ per ∧ per ≤ 16) (hwin : 0 ≤ win ∧ win ≤ 3) (hd : ∀ k : Int, 0 ≤ k → k < 32 → 0 ≤ d k ∧ d k ≤ 7) : MI l yX1_isFitting cX1_isFitting 7 .boolean { frames := 1, cells := 0, slots := 0, locals := 17 } D (zT cA cB) [.ref h, .int (zI c), .int (zI q)] [cO h 1 [.ref a0, .ref a1, .ref a2, .ref a3, .ref a4, .ref a5, .int (zI per), .int (zI win), .int (zI cr)], cI cA a1 32 d] (fun r w => w = [cO h 1 [.ref a0, .ref a1, .ref a2, .ref a3, .ref a4, .ref a5, .int (zI per), .int (zI win), .int (zI cr)], cI cA a1 32 d] ∧ ((r = 1 ∧ (fitP per win d c q)) ∨ (r = 0 ∧ ¬ (fitP per win d c q)))) := by
  refine MI.of RX1 ⟨rfl, by decide +kernel⟩ (Or.inr rfl) (Nat.le_of_ble_eq_true rfl) (fun _ r w h => by rcases h.2 with h | h; exact Or.inr h.1; exact Or.inl h.1) ?_
  intro K C hret
  change K 0 0 _ [(0, .ref h), (1, .int (zI c)), (2, .int (zI q))] 0 []
  refine y_aload_n C 0 dX1_isFitting_0 rfl ?_
  refine y_get C fg_X1_48 0 dX1_isFitting_1 rfl rfl ?_
  refine y_iload_n C 2 dX1_isFitting_4 rfl ?_
  refine y_isub C dX1_isFitting_5 ?_
  refine y_istore_n C [(3, .int (zI (per - q))), (0, .ref h), (1, .int (zI c)), (2, .int (zI q))] dX1_isFitting_6 (by decide) rfl ?_
  refine y_iload_n C 0 dX1_isFitting_7 rfl ?_
  refine y_if_lt C 16 dX1_isFitting_8 (by decide) ⟨by omega, by omega⟩ (fun c_1 => ?_) (fun c_1 => ?_)
  · refine y_iconst C dX1_isFitting_16 ?_
    refine hret _ _ _ _ dX1_isFitting_17 ⟨rfl, ?_⟩
    show ((0 = 1 ∧ (fitP per win d c q)) ∨ (0 = 0 ∧ ¬ (fitP per win d c q)))
    exact Or.inr ⟨rfl, fun h => by have := h.1; omega⟩
  · refine y_iload_n C 2 dX1_isFitting_11 rfl ?_
    refine y_iload_n C 0 dX1_isFitting_12 rfl ?_
    refine y_icmp_ge C 18 dX1_isFitting_13 (by decide) ⟨⟨by omega, by omega⟩, ⟨by omega, by omega⟩⟩ (fun c_2 => ?_) (fun c_2 => ?_)
    · refine y_iload_n C 2 dX1_isFitting_18 rfl ?_
      refine y_aload_n C 1 dX1_isFitting_19 rfl ?_
      refine y_get C fg_X1_52 0 dX1_isFitting_20 rfl rfl ?_
      refine y_isub C dX1_isFitting_23 ?_
      refine y_iload_n C 0 dX1_isFitting_24 rfl ?_
      refine y_max C lk_X1_99 dX1_isFitting_25 ⟨⟨by omega, by omega⟩, ⟨by omega, by omega⟩⟩ ⟨by exact Nat.le_of_ble_eq_true rfl, by exact Nat.le_of_ble_eq_true rfl, by exact Nat.le_of_ble_eq_true rfl, by exact Nat.le_of_ble_eq_true rfl⟩ (fun z_4 m_3 => ?_)
      refine y_istore C [(4, .int (zI z_4)), (3, .int (zI (per - q))), (0, .ref h), (1, .int (zI c)), (2, .int (zI q))] dX1_isFitting_28 (by decide) rfl ?_
      refine y_iload_n C 3 dX1_isFitting_30 rfl ?_
      refine y_aload_n C 2 dX1_isFitting_31 rfl ?_
      refine y_get C fg_X1_52 0 dX1_isFitting_32 rfl rfl ?_
      refine y_iadd C dX1_isFitting_35 ?_
      refine y_bipush C dX1_isFitting_36 (by decide +kernel) ?_
      refine y_min C lk_X1_104 dX1_isFitting_38 ⟨⟨by omega, by omega⟩, ⟨by omega, by omega⟩⟩ ⟨by exact Nat.le_of_ble_eq_true rfl, by exact Nat.le_of_ble_eq_true rfl, by exact Nat.le_of_ble_eq_true rfl, by exact Nat.le_of_ble_eq_true rfl⟩ (fun z_6 m_5 => ?_)
      refine y_istore C [(5, .int (zI z_6)), (4, .int (zI z_4)), (3, .int (zI (per - q))), (0, .ref h), (1, .int (zI c)), (2, .int (zI q))] dX1_isFitting_41 (by decide) rfl ?_
      refine y_iload C 1 dX1_isFitting_43 rfl ?_
      refine y_istore C [(6, .int (zI z_4)), (5, .int (zI z_6)), (4, .int (zI z_4)), (3, .int (zI (per - q))), (0, .ref h), (1, .int (zI c)), (2, .int (zI q))] dX1_isFitting_45 (by decide) rfl ?_
      refine y_lsub C [4, 5, 6, 3, 2, 1, 0] (lv' := [(0, .ref h), (1, .int (zI c)), (2, .int (zI q)), (3, .int (zI (per - q))), (4, .int (zI z_4)), (5, .int (zI z_6)), (6, .int (zI z_4))]) rfl ?_
      suffices hL47 : ∀ (fu : Nat) (k : Int), (z_4 ≤ k ∧ k ≤ 33) → (∀ j : Int, z_4 ≤ j → j < k → d j = d (j - (per - q))) → (40 - k).toNat < fu → K 0 0 [cO h 1 [.ref a0, .ref a1, .ref a2, .ref a3, .ref a4, .ref a5, .int (zI per), .int (zI win), .int (zI cr)], cI cA a1 32 d] [(0, .ref h), (1, .int (zI c)), (2, .int (zI q)), (3, .int (zI (per - q))), (4, .int (zI z_4)), (5, .int (zI z_6)), (6, .int (zI k))] 47 [] from hL47 _ z_4 (by omega) (by intro j h1 h2; omega) (Nat.lt_succ_self _)
      intro f47
      induction f47 with
      | zero => exact fun _ _ _ hf => absurd hf (Nat.not_lt_zero _)
      | succ f47 ih47 =>
        intro k hk hall hf47
        refine y_iload C 6 dX1_isFitting_47 rfl ?_
        refine y_iload C 5 dX1_isFitting_49 rfl ?_
        refine y_icmp_gt C 81 dX1_isFitting_51 (by decide) ⟨⟨by omega, by omega⟩, ⟨by omega, by omega⟩⟩ (fun c_7 => ?_) (fun c_7 => ?_)
        · refine y_iconst C dX1_isFitting_81 ?_
          refine hret _ _ _ _ dX1_isFitting_82 ⟨rfl, ?_⟩
          show ((1 = 1 ∧ (fitP per win d c q)) ∨ (1 = 0 ∧ ¬ (fitP per win d c q)))
          exact Or.inl ⟨rfl, by omega, fun j h1 h2 h3 h4 => hall j (by omega) (by omega)⟩
        · refine y_aload_n C 0 dX1_isFitting_54 rfl ?_
          refine y_get C fg_X1_15 0 dX1_isFitting_55 rfl rfl ?_
          refine y_iload C 6 dX1_isFitting_58 rfl ?_
          refine y_iald C 1 0 dX1_isFitting_60 rfl rfl ⟨by omega, by omega, by omega⟩ ?_
          have g_8 := hd k (by omega) (by omega)
          refine y_aload_n C 0 dX1_isFitting_61 rfl ?_
          refine y_get C fg_X1_15 0 dX1_isFitting_62 rfl rfl ?_
          refine y_iload C 6 dX1_isFitting_65 rfl ?_
          refine y_iload_n C 3 dX1_isFitting_67 rfl ?_
          refine y_isub C dX1_isFitting_68 ?_
          refine y_iald C 1 0 dX1_isFitting_69 rfl rfl ⟨by omega, by omega, by omega⟩ ?_
          have g_9 := hd (k - (per - q)) (by omega) (by omega)
          refine y_icmp_eq C 75 dX1_isFitting_70 (by decide) ⟨⟨by omega, by omega⟩, ⟨by omega, by omega⟩⟩ (fun c_10 => ?_) (fun c_10 => ?_)
          · refine y_iinc C 6 [(6, .int (zI (k + 1))), (0, .ref h), (1, .int (zI c)), (2, .int (zI q)), (3, .int (zI (per - q))), (4, .int (zI z_4)), (5, .int (zI z_6))] dX1_isFitting_75 rfl (by decide) rfl ?_
            refine y_goto C 47 dX1_isFitting_78 (by decide) ?_
            refine y_lsub C [1, 2, 3, 4, 5, 6, 0] (lv' := [(0, .ref h), (1, .int (zI c)), (2, .int (zI q)), (3, .int (zI (per - q))), (4, .int (zI z_4)), (5, .int (zI z_6)), (6, .int (zI (k + 1)))]) rfl ?_
            exact ih47 (k + 1) (by omega) (by intro j h1 h2; exact (show j < k ∨ j = k from by omega).elim (fun h3 => hall j h1 h3) (fun h3 => by rw [h3]; assumption)) (by omega)
          · refine y_iconst C dX1_isFitting_73 ?_
            refine hret _ _ _ _ dX1_isFitting_74 ⟨rfl, ?_⟩
            show ((0 = 1 ∧ (fitP per win d c q)) ∨ (0 = 0 ∧ ¬ (fitP per win d c q)))
            exact Or.inr ⟨rfl, fun h => absurd (h.2 k (by omega) (by omega) (by omega) (by omega)) (by assumption)⟩
    · refine y_iconst C dX1_isFitting_16 ?_
      refine hret _ _ _ _ dX1_isFitting_17 ⟨rfl, ?_⟩
      show ((0 = 1 ∧ (fitP per win d c q)) ∨ (0 = 0 ∧ ¬ (fitP per win d c q)))
      exact Or.inr ⟨rfl, fun h => by have := h.1; omega⟩

set_option maxHeartbeats 4000000 in
set_option maxRecDepth 100000 in
theorem m_X1_nearestFitting {l : Launch} {D : va_G} {cA cB : ClassId} {h a0 a1 a2 a3 a4 a5 : Nat} {per win cr : Int} {d : Int → Int} {c had : Int} (hc : 0 ≤ c ∧ c < 32) (hhad : 0 ≤ had ∧ had ≤ 4) (hper : 6 ≤ per ∧ per ≤ 16) (hwin : 0 ≤ win ∧ win ≤ 3) (hd : ∀ k : Int, 0 ≤ k → k < 32 → 0 ≤ d k ∧ d k ≤ 7) : MI l yX1_nearestFitting cX1_nearestFitting 4 .int { frames := 2, cells := 0, slots := 0, locals := 43 } D (zT cA cB) [.ref h, .int (zI c), .int (zI had)] [cO h 1 [.ref a0, .ref a1, .ref a2, .ref a3, .ref a4, .ref a5, .int (zI per), .int (zI win), .int (zI cr)], cI cA a1 32 d] (fun r w => w = [cO h 1 [.ref a0, .ref a1, .ref a2, .ref a3, .ref a4, .ref a5, .int (zI per), .int (zI win), .int (zI cr)], cI cA a1 32 d] ∧ r = nearF (fitP per win d c) had ∧ Near (fitP per win d c) had r ∧ (r = -4 ∨ (0 ≤ r ∧ r ≤ 4))) := by
  refine MI.of RX1 ⟨rfl, by decide +kernel⟩ (Or.inl rfl) (Nat.le_of_ble_eq_true rfl) (fun h => by cases h) ?_
  intro K C hret
  change K 0 0 _ [(0, .ref h), (1, .int (zI c)), (2, .int (zI had))] 0 []
  refine y_iconst C dX1_nearestFitting_0 ?_
  refine y_istore_n C [(3, .int (zI 0)), (0, .ref h), (1, .int (zI c)), (2, .int (zI had))] dX1_nearestFitting_1 (by decide) rfl ?_
  refine y_lsub C [1, 2, 3, 0] (lv' := [(0, .ref h), (1, .int (zI c)), (2, .int (zI had)), (3, .int (zI 0))]) rfl ?_
  suffices hL2 : ∀ (fu : Nat) (off : Int), (0 ≤ off ∧ off ≤ 5) → (∀ q : Int, 0 ≤ q → q ≤ 4 → fitP per win d c q → off ≤ max (q - had) (had - q)) → (5 - off).toNat < fu → K 0 0 [cO h 1 [.ref a0, .ref a1, .ref a2, .ref a3, .ref a4, .ref a5, .int (zI per), .int (zI win), .int (zI cr)], cI cA a1 32 d] [(0, .ref h), (1, .int (zI c)), (2, .int (zI had)), (3, .int (zI off))] 2 [] from hL2 _ 0 (by omega) (by intro q h1 h2 h3; omega) (Nat.lt_succ_self _)
  intro f2
  induction f2 with
  | zero => exact fun _ _ _ hf => absurd hf (Nat.not_lt_zero _)
  | succ f2 ih2 =>
    intro off hoff hno hf2
    refine y_iload_n C 3 dX1_nearestFitting_2 rfl ?_
    refine y_iconst C dX1_nearestFitting_3 ?_
    refine y_icmp_ge C 56 dX1_nearestFitting_4 (by decide) ⟨⟨by omega, by omega⟩, ⟨by omega, by omega⟩⟩ (fun c_1 => ?_) (fun c_1 => ?_)
    · refine y_bipush C dX1_nearestFitting_56 (by decide +kernel) ?_
      refine hret _ _ _ _ dX1_nearestFitting_58 ⟨rfl, ?_⟩
      show (-4) = nearF (fitP per win d c) had ∧ Near (fitP per win d c) had (-4) ∧ ((-4) = -4 ∨ (0 ≤ (-4) ∧ (-4) ≤ 4))
      have hN : Near (fitP per win d c) had (-4) := Or.inl ⟨rfl, fun q h1 h2 h3 => by have h4 := hno q h1 h2 h3; omega⟩
      exact ⟨(nearF_of hN).symm, hN, by omega⟩
    · refine y_iload_n C 2 dX1_nearestFitting_7 rfl ?_
      refine y_iload_n C 3 dX1_nearestFitting_8 rfl ?_
      refine y_iadd C dX1_nearestFitting_9 ?_
      refine y_iconst C dX1_nearestFitting_10 ?_
      refine y_icmp_ge C 29 dX1_nearestFitting_11 (by decide) ⟨⟨by omega, by omega⟩, ⟨by omega, by omega⟩⟩ (fun c_2 => ?_) (fun c_2 => ?_)
      · have hn1 : ¬ (had + off ≤ 4 ∧ fitP per win d c (had + off)) := by first | (rcases hf1 with q | q; omega; exact fun z => q.2 z.2) | (intro z; omega)
        refine y_iload_n C 2 dX1_nearestFitting_29 rfl ?_
        refine y_iload_n C 3 dX1_nearestFitting_30 rfl ?_
        refine y_isub C dX1_nearestFitting_31 ?_
        refine y_if_lt C 50 dX1_nearestFitting_32 (by decide) ⟨by omega, by omega⟩ (fun c_3 => ?_) (fun c_3 => ?_)
        · have hn2 : ¬ (0 ≤ had - off ∧ fitP per win d c (had - off)) := by first | (rcases hf2 with q | q; omega; exact fun z => q.2 z.2) | (intro z; omega)
          refine y_iinc C 3 [(3, .int (zI (off + 1))), (0, .ref h), (1, .int (zI c)), (2, .int (zI had))] dX1_nearestFitting_50 rfl (by decide) rfl ?_
          refine y_goto C 2 dX1_nearestFitting_53 (by decide) ?_
          refine y_lsub C [1, 2, 3, 0] (lv' := [(0, .ref h), (1, .int (zI c)), (2, .int (zI had)), (3, .int (zI (off + 1)))]) rfl ?_
          exact ih2 (off + 1) (by omega) (by intro q h1 h2 h3; have h4 := hno q h1 h2 h3; have h5 : ¬ q = had + off := (fun e => hn1 ⟨by omega, by rw [← e]; exact h3⟩); have h6 : ¬ q = had - off := (fun e => hn2 ⟨by omega, by rw [← e]; exact h3⟩); omega) (by omega)
        · refine y_aload_n C 0 dX1_nearestFitting_35 rfl ?_
          refine y_iload_n C 1 dX1_nearestFitting_36 rfl ?_
          refine y_iload_n C 2 dX1_nearestFitting_37 rfl ?_
          refine y_iload_n C 3 dX1_nearestFitting_38 rfl ?_
          refine y_isub C dX1_nearestFitting_39 ?_
          refine y_pcall C (m_X1_isFitting (l := l) (D := D) (cA := cA) (cB := cB) (h := h) (a0 := a0) (a1 := a1) (a2 := a2) (a3 := a3) (a4 := a4) (a5 := a5) (per := per) (win := win) (cr := cr) (d := d) (c := c) (q := had - off) (by first | assumption | omega | exact ⟨by omega, by omega⟩) (by first | assumption | omega | exact ⟨by omega, by omega⟩) (by first | assumption | omega | exact ⟨by omega, by omega⟩) (by first | assumption | omega | exact ⟨by omega, by omega⟩) (by first | assumption | omega | exact ⟨by omega, by omega⟩)) lk_X1_95 [0, 1] [] [0, 1] ⟨rfl, rfl, by decide, by decide, by decide⟩ ⟨rfl, by decide⟩ rfl rfl dX1_nearestFitting_40 rfl rfl ⟨by exact Nat.le_of_ble_eq_true rfl, by exact Nat.le_of_ble_eq_true rfl, rfl, rfl, by exact Nat.le_of_ble_eq_true rfl, by exact Nat.le_of_ble_eq_true rfl, by exact Nat.le_of_ble_eq_true rfl⟩ (fun r_5 h_4 => ?_)
          have hf2 : (r_5 = 1 ∧ fitP per win d c (had - off)) ∨ (r_5 = 0 ∧ ¬ fitP per win d c (had - off)) := h_4
          refine y_if_eq C 50 dX1_nearestFitting_43 (by decide) ⟨by omega, by omega⟩ (fun c_6 => ?_) (fun c_6 => ?_)
          · have hn2 : ¬ (0 ≤ had - off ∧ fitP per win d c (had - off)) := by first | (rcases hf2 with q | q; omega; exact fun z => q.2 z.2) | (intro z; omega)
            refine y_iinc C 3 [(3, .int (zI (off + 1))), (0, .ref h), (1, .int (zI c)), (2, .int (zI had))] dX1_nearestFitting_50 rfl (by decide) rfl ?_
            refine y_goto C 2 dX1_nearestFitting_53 (by decide) ?_
            refine y_lsub C [1, 2, 3, 0] (lv' := [(0, .ref h), (1, .int (zI c)), (2, .int (zI had)), (3, .int (zI (off + 1)))]) rfl ?_
            exact ih2 (off + 1) (by omega) (by intro q h1 h2 h3; have h4 := hno q h1 h2 h3; have h5 : ¬ q = had + off := (fun e => hn1 ⟨by omega, by rw [← e]; exact h3⟩); have h6 : ¬ q = had - off := (fun e => hn2 ⟨by omega, by rw [← e]; exact h3⟩); omega) (by omega)
          · refine y_iload_n C 2 dX1_nearestFitting_46 rfl ?_
            refine y_iload_n C 3 dX1_nearestFitting_47 rfl ?_
            refine y_isub C dX1_nearestFitting_48 ?_
            have hy : fitP per win d c (had - off) := by rcases hf2 with q | q; exact q.2; omega
            refine hret _ _ _ _ dX1_nearestFitting_49 ⟨rfl, ?_⟩
            show (had - off) = nearF (fitP per win d c) had ∧ Near (fitP per win d c) had (had - off) ∧ ((had - off) = -4 ∨ (0 ≤ (had - off) ∧ (had - off) ≤ 4))
            have hN : Near (fitP per win d c) had (had - off) := Or.inr ⟨by omega, by omega, hy, fun q h1 h2 h3 => by have h4 := hno q h1 h2 h3; have h5 : ¬ q = had + off := (fun e => hn1 ⟨by omega, by rw [← e]; exact h3⟩); omega⟩
            exact ⟨(nearF_of hN).symm, hN, by omega⟩
      · refine y_aload_n C 0 dX1_nearestFitting_14 rfl ?_
        refine y_iload_n C 1 dX1_nearestFitting_15 rfl ?_
        refine y_iload_n C 2 dX1_nearestFitting_16 rfl ?_
        refine y_iload_n C 3 dX1_nearestFitting_17 rfl ?_
        refine y_iadd C dX1_nearestFitting_18 ?_
        refine y_pcall C (m_X1_isFitting (l := l) (D := D) (cA := cA) (cB := cB) (h := h) (a0 := a0) (a1 := a1) (a2 := a2) (a3 := a3) (a4 := a4) (a5 := a5) (per := per) (win := win) (cr := cr) (d := d) (c := c) (q := had + off) (by first | assumption | omega | exact ⟨by omega, by omega⟩) (by first | assumption | omega | exact ⟨by omega, by omega⟩) (by first | assumption | omega | exact ⟨by omega, by omega⟩) (by first | assumption | omega | exact ⟨by omega, by omega⟩) (by first | assumption | omega | exact ⟨by omega, by omega⟩)) lk_X1_95 [0, 1] [] [0, 1] ⟨rfl, rfl, by decide, by decide, by decide⟩ ⟨rfl, by decide⟩ rfl rfl dX1_nearestFitting_19 rfl rfl ⟨by exact Nat.le_of_ble_eq_true rfl, by exact Nat.le_of_ble_eq_true rfl, rfl, rfl, by exact Nat.le_of_ble_eq_true rfl, by exact Nat.le_of_ble_eq_true rfl, by exact Nat.le_of_ble_eq_true rfl⟩ (fun r_8 h_7 => ?_)
        have hf1 : (r_8 = 1 ∧ fitP per win d c (had + off)) ∨ (r_8 = 0 ∧ ¬ fitP per win d c (had + off)) := h_7
        refine y_if_eq C 29 dX1_nearestFitting_22 (by decide) ⟨by omega, by omega⟩ (fun c_9 => ?_) (fun c_9 => ?_)
        · have hn1 : ¬ (had + off ≤ 4 ∧ fitP per win d c (had + off)) := by first | (rcases hf1 with q | q; omega; exact fun z => q.2 z.2) | (intro z; omega)
          refine y_iload_n C 2 dX1_nearestFitting_29 rfl ?_
          refine y_iload_n C 3 dX1_nearestFitting_30 rfl ?_
          refine y_isub C dX1_nearestFitting_31 ?_
          refine y_if_lt C 50 dX1_nearestFitting_32 (by decide) ⟨by omega, by omega⟩ (fun c_10 => ?_) (fun c_10 => ?_)
          · have hn2 : ¬ (0 ≤ had - off ∧ fitP per win d c (had - off)) := by first | (rcases hf2 with q | q; omega; exact fun z => q.2 z.2) | (intro z; omega)
            refine y_iinc C 3 [(3, .int (zI (off + 1))), (0, .ref h), (1, .int (zI c)), (2, .int (zI had))] dX1_nearestFitting_50 rfl (by decide) rfl ?_
            refine y_goto C 2 dX1_nearestFitting_53 (by decide) ?_
            refine y_lsub C [1, 2, 3, 0] (lv' := [(0, .ref h), (1, .int (zI c)), (2, .int (zI had)), (3, .int (zI (off + 1)))]) rfl ?_
            exact ih2 (off + 1) (by omega) (by intro q h1 h2 h3; have h4 := hno q h1 h2 h3; have h5 : ¬ q = had + off := (fun e => hn1 ⟨by omega, by rw [← e]; exact h3⟩); have h6 : ¬ q = had - off := (fun e => hn2 ⟨by omega, by rw [← e]; exact h3⟩); omega) (by omega)
          · refine y_aload_n C 0 dX1_nearestFitting_35 rfl ?_
            refine y_iload_n C 1 dX1_nearestFitting_36 rfl ?_
            refine y_iload_n C 2 dX1_nearestFitting_37 rfl ?_
            refine y_iload_n C 3 dX1_nearestFitting_38 rfl ?_
            refine y_isub C dX1_nearestFitting_39 ?_
            refine y_pcall C (m_X1_isFitting (l := l) (D := D) (cA := cA) (cB := cB) (h := h) (a0 := a0) (a1 := a1) (a2 := a2) (a3 := a3) (a4 := a4) (a5 := a5) (per := per) (win := win) (cr := cr) (d := d) (c := c) (q := had - off) (by first | assumption | omega | exact ⟨by omega, by omega⟩) (by first | assumption | omega | exact ⟨by omega, by omega⟩) (by first | assumption | omega | exact ⟨by omega, by omega⟩) (by first | assumption | omega | exact ⟨by omega, by omega⟩) (by first | assumption | omega | exact ⟨by omega, by omega⟩)) lk_X1_95 [0, 1] [] [0, 1] ⟨rfl, rfl, by decide, by decide, by decide⟩ ⟨rfl, by decide⟩ rfl rfl dX1_nearestFitting_40 rfl rfl ⟨by exact Nat.le_of_ble_eq_true rfl, by exact Nat.le_of_ble_eq_true rfl, rfl, rfl, by exact Nat.le_of_ble_eq_true rfl, by exact Nat.le_of_ble_eq_true rfl, by exact Nat.le_of_ble_eq_true rfl⟩ (fun r_12 h_11 => ?_)
            have hf2 : (r_12 = 1 ∧ fitP per win d c (had - off)) ∨ (r_12 = 0 ∧ ¬ fitP per win d c (had - off)) := h_11
            refine y_if_eq C 50 dX1_nearestFitting_43 (by decide) ⟨by omega, by omega⟩ (fun c_13 => ?_) (fun c_13 => ?_)
            · have hn2 : ¬ (0 ≤ had - off ∧ fitP per win d c (had - off)) := by first | (rcases hf2 with q | q; omega; exact fun z => q.2 z.2) | (intro z; omega)
              refine y_iinc C 3 [(3, .int (zI (off + 1))), (0, .ref h), (1, .int (zI c)), (2, .int (zI had))] dX1_nearestFitting_50 rfl (by decide) rfl ?_
              refine y_goto C 2 dX1_nearestFitting_53 (by decide) ?_
              refine y_lsub C [1, 2, 3, 0] (lv' := [(0, .ref h), (1, .int (zI c)), (2, .int (zI had)), (3, .int (zI (off + 1)))]) rfl ?_
              exact ih2 (off + 1) (by omega) (by intro q h1 h2 h3; have h4 := hno q h1 h2 h3; have h5 : ¬ q = had + off := (fun e => hn1 ⟨by omega, by rw [← e]; exact h3⟩); have h6 : ¬ q = had - off := (fun e => hn2 ⟨by omega, by rw [← e]; exact h3⟩); omega) (by omega)
            · refine y_iload_n C 2 dX1_nearestFitting_46 rfl ?_
              refine y_iload_n C 3 dX1_nearestFitting_47 rfl ?_
              refine y_isub C dX1_nearestFitting_48 ?_
              have hy : fitP per win d c (had - off) := by rcases hf2 with q | q; exact q.2; omega
              refine hret _ _ _ _ dX1_nearestFitting_49 ⟨rfl, ?_⟩
              show (had - off) = nearF (fitP per win d c) had ∧ Near (fitP per win d c) had (had - off) ∧ ((had - off) = -4 ∨ (0 ≤ (had - off) ∧ (had - off) ≤ 4))
              have hN : Near (fitP per win d c) had (had - off) := Or.inr ⟨by omega, by omega, hy, fun q h1 h2 h3 => by have h4 := hno q h1 h2 h3; have h5 : ¬ q = had + off := (fun e => hn1 ⟨by omega, by rw [← e]; exact h3⟩); omega⟩
              exact ⟨(nearF_of hN).symm, hN, by omega⟩
        · refine y_iload_n C 2 dX1_nearestFitting_25 rfl ?_
          refine y_iload_n C 3 dX1_nearestFitting_26 rfl ?_
          refine y_iadd C dX1_nearestFitting_27 ?_
          have hy : fitP per win d c (had + off) := by rcases hf1 with q | q; exact q.2; omega
          refine hret _ _ _ _ dX1_nearestFitting_28 ⟨rfl, ?_⟩
          show (had + off) = nearF (fitP per win d c) had ∧ Near (fitP per win d c) had (had + off) ∧ ((had + off) = -4 ∨ (0 ≤ (had + off) ∧ (had + off) ≤ 4))
          have hN : Near (fitP per win d c) had (had + off) := Or.inr ⟨by omega, by omega, hy, fun q h1 h2 h3 => by have h4 := hno q h1 h2 h3; omega⟩
          exact ⟨(nearF_of hN).symm, hN, by omega⟩

set_option maxHeartbeats 4000000 in
set_option maxRecDepth 100000 in
theorem m_X1_watch {l : Launch} {D : va_G} {cA cB : ClassId} {h a0 a1 a2 a3 a4 a5 : Nat} {per win cr : Int} {d sn : Int → Int} (hper : 6 ≤ per ∧ per ≤ 16) (hwin : 0 ≤ win ∧ win ≤ 3) (hcr : cr = 0 ∨ cr = 1) (hd : ∀ k : Int, 0 ≤ k → k < 32 → 0 ≤ d k ∧ d k ≤ 7) : MV l yX1_watch cX1_watch 4 { frames := 3, cells := 0, slots := 0, locals := 66 } D (zT cA cB) [.ref h] [cO h 1 [.ref a0, .ref a1, .ref a2, .ref a3, .ref a4, .ref a5, .int (zI per), .int (zI win), .int (zI cr)], cI cA a1 32 d, cI cA a3 32 sn] (fun w => ∃ (sn2 : Int → Int), w = [cO h 1 [.ref a0, .ref a1, .ref a2, .ref a3, .ref a4, .ref a5, .int (zI per), .int (zI win), .int (zI cr)], cI cA a1 32 d, cI cA a3 32 sn2] ∧ (∀ k : Int, 0 ≤ k → k < 32 → sn2 k = seeZ per win cr d k)) := by
  refine MV.of RX1 ⟨rfl, by decide +kernel⟩ (Nat.le_of_ble_eq_true rfl) ?_
  intro K C hret
  change K 0 0 _ [(0, .ref h)] 0 []
  refine y_iconst C dX1_watch_0 ?_
  refine y_istore_n C [(1, .int (zI 0)), (0, .ref h)] dX1_watch_1 (by decide) rfl ?_
  refine y_iconst C dX1_watch_2 ?_
  refine y_istore_n C [(2, .int (zI 0)), (1, .int (zI 0)), (0, .ref h)] dX1_watch_3 (by decide) rfl ?_
  refine y_lsub C [2, 1, 0] (lv' := [(0, .ref h), (1, .int (zI 0)), (2, .int (zI 0))]) rfl ?_
  suffices hL4 : ∀ (fu : Nat) (had : Int) (c : Int) (sn1 : Int → Int), (0 ≤ c ∧ c ≤ 32) → (had = hadZ per win d c ∧ 0 ≤ had ∧ had ≤ 4) → (∀ k : Int, 0 ≤ k → k < c → sn1 k = seeZ per win cr d k) → (32 - c).toNat < fu → K 0 0 [cO h 1 [.ref a0, .ref a1, .ref a2, .ref a3, .ref a4, .ref a5, .int (zI per), .int (zI win), .int (zI cr)], cI cA a1 32 d, cI cA a3 32 sn1] [(0, .ref h), (1, .int (zI had)), (2, .int (zI c))] 4 [] from hL4 _ 0 0 sn (by omega) (by exact ⟨(hadZ_0 per win d).symm, by omega, by omega⟩) (by intro k h1 h2; omega) (Nat.lt_succ_self _)
  intro f4
  induction f4 with
  | zero => exact fun _ _ _ _ _ _ hf => absurd hf (Nat.not_lt_zero _)
  | succ f4 ih4 =>
    intro had c sn1 hc hhad hs hf4
    refine y_iload_n C 2 dX1_watch_4 rfl ?_
    refine y_bipush C dX1_watch_5 (by decide +kernel) ?_
    refine y_icmp_ge C 62 dX1_watch_7 (by decide) ⟨⟨by omega, by omega⟩, ⟨by omega, by omega⟩⟩ (fun c_1 => ?_) (fun c_1 => ?_)
    · refine hret _ _ _ dX1_watch_62 ⟨sn1, rfl, ?_⟩
      show (∀ k : Int, 0 ≤ k → k < 32 → sn1 k = seeZ per win cr d k)
      exact fun k h1 h2 => hs k h1 (by omega)
    · refine y_aload_n C 0 dX1_watch_10 rfl ?_
      refine y_iload_n C 2 dX1_watch_11 rfl ?_
      refine y_iload_n C 1 dX1_watch_12 rfl ?_
      refine y_pcall C (m_X1_nearestFitting (l := l) (D := D) (cA := cA) (cB := cB) (h := h) (a0 := a0) (a1 := a1) (a2 := a2) (a3 := a3) (a4 := a4) (a5 := a5) (per := per) (win := win) (cr := cr) (d := d) (c := c) (had := had) (by first | assumption | omega | exact ⟨by omega, by omega⟩) (by first | assumption | omega | exact ⟨by omega, by omega⟩) (by first | assumption | omega | exact ⟨by omega, by omega⟩) (by first | assumption | omega | exact ⟨by omega, by omega⟩) (by first | assumption | omega | exact ⟨by omega, by omega⟩)) lk_X1_92 [0, 1] [2] [1, 2, 0] ⟨rfl, rfl, by decide, by decide, by decide⟩ ⟨rfl, by decide⟩ rfl rfl dX1_watch_13 rfl rfl ⟨by exact Nat.le_of_ble_eq_true rfl, by exact Nat.le_of_ble_eq_true rfl, rfl, rfl, by exact Nat.le_of_ble_eq_true rfl, by exact Nat.le_of_ble_eq_true rfl, by exact Nat.le_of_ble_eq_true rfl⟩ (fun r_3 h_2 => ?_)
      have ht : takZ per win d c = r_3 := by unfold takZ; rw [← hhad.1]; exact (h_2).1.symm
      have ht4 := (h_2).2.2
      refine y_istore_n C [(3, .int (zI r_3)), (0, .ref h), (1, .int (zI had)), (2, .int (zI c))] dX1_watch_16 (by decide) rfl ?_
      refine y_iload_n C 0 dX1_watch_17 rfl ?_
      refine y_bipush C dX1_watch_18 (by decide +kernel) ?_
      refine y_icmp_ne C 34 dX1_watch_20 (by decide) ⟨⟨by omega, by omega⟩, ⟨by omega, by omega⟩⟩ (fun c_4 => ?_) (fun c_4 => ?_)
      · refine y_iload_n C 0 dX1_watch_34 rfl ?_
        refine y_istore_n C [(1, .int (zI r_3)), (3, .int (zI r_3)), (0, .ref h), (2, .int (zI c))] dX1_watch_35 (by decide) rfl ?_
        refine y_aload_n C 2 dX1_watch_36 rfl ?_
        refine y_get C fg_X1_21 0 dX1_watch_37 rfl rfl ?_
        refine y_iload_n C 3 dX1_watch_40 rfl ?_
        refine y_aload_n C 2 dX1_watch_41 rfl ?_
        refine y_get C fg_X1_55 0 dX1_watch_42 rfl rfl ?_
        refine y_if_eq C 54 dX1_watch_45 (by decide) ⟨by omega, by omega⟩ (fun c_5 => ?_) (fun c_5 => ?_)
        · refine y_iload_n C 1 dX1_watch_54 rfl ?_
          refine y_iast C 2 0 [cO h 1 [.ref a0, .ref a1, .ref a2, .ref a3, .ref a4, .ref a5, .int (zI per), .int (zI win), .int (zI cr)], cI cA a1 32 d, cI cA a3 32 (zU sn1 c r_3)] dX1_watch_55 rfl rfl ⟨by omega, by omega, by omega⟩ rfl ?_
          refine y_iinc C 3 [(2, .int (zI (c + 1))), (1, .int (zI r_3)), (3, .int (zI r_3)), (0, .ref h)] dX1_watch_56 rfl (by decide) rfl ?_
          refine y_goto C 4 dX1_watch_59 (by decide) ?_
          refine y_lsub C [3, 1, 0] (lv' := [(0, .ref h), (1, .int (zI r_3)), (2, .int (zI (c + 1)))]) rfl ?_
          exact ih4 r_3 (c + 1) (zU sn1 c r_3) (by omega) (by refine ⟨?_, by omega⟩; rw [hadZ_s per win d (by omega), ht]; first | (rw [if_pos (by omega)]; exact hhad.1) | (rw [if_neg (by omega)])) (by refine zU_ext hs ?_; unfold seeZ; rw [ht]; first | rw [if_pos (by omega)] | rw [if_neg (by omega), if_pos (by omega)] | rw [if_neg (by omega), if_neg (by omega)]) (by omega)
        · refine y_iconst C dX1_watch_48 ?_
          refine y_iload_n C 1 dX1_watch_49 rfl ?_
          refine y_isub C dX1_watch_50 ?_
          refine y_goto C 55 dX1_watch_51 (by decide) ?_
          refine y_iast C 2 0 [cO h 1 [.ref a0, .ref a1, .ref a2, .ref a3, .ref a4, .ref a5, .int (zI per), .int (zI win), .int (zI cr)], cI cA a1 32 d, cI cA a3 32 (zU sn1 c (4 - r_3))] dX1_watch_55 rfl rfl ⟨by omega, by omega, by omega⟩ rfl ?_
          refine y_iinc C 3 [(2, .int (zI (c + 1))), (1, .int (zI r_3)), (3, .int (zI r_3)), (0, .ref h)] dX1_watch_56 rfl (by decide) rfl ?_
          refine y_goto C 4 dX1_watch_59 (by decide) ?_
          refine y_lsub C [3, 1, 0] (lv' := [(0, .ref h), (1, .int (zI r_3)), (2, .int (zI (c + 1)))]) rfl ?_
          exact ih4 r_3 (c + 1) (zU sn1 c (4 - r_3)) (by omega) (by refine ⟨?_, by omega⟩; rw [hadZ_s per win d (by omega), ht]; first | (rw [if_pos (by omega)]; exact hhad.1) | (rw [if_neg (by omega)])) (by refine zU_ext hs ?_; unfold seeZ; rw [ht]; first | rw [if_pos (by omega)] | rw [if_neg (by omega), if_pos (by omega)] | rw [if_neg (by omega), if_neg (by omega)]) (by omega)
      · refine y_aload_n C 1 dX1_watch_23 rfl ?_
        refine y_get C fg_X1_21 0 dX1_watch_24 rfl rfl ?_
        refine y_iload_n C 3 dX1_watch_27 rfl ?_
        refine y_bipush C dX1_watch_28 (by decide +kernel) ?_
        refine y_iast C 2 0 [cO h 1 [.ref a0, .ref a1, .ref a2, .ref a3, .ref a4, .ref a5, .int (zI per), .int (zI win), .int (zI cr)], cI cA a1 32 d, cI cA a3 32 (zU sn1 c (-4))] dX1_watch_30 rfl rfl ⟨by omega, by omega, by omega⟩ rfl ?_
        refine y_goto C 56 dX1_watch_31 (by decide) ?_
        refine y_iinc C 3 [(2, .int (zI (c + 1))), (3, .int (zI r_3)), (0, .ref h), (1, .int (zI had))] dX1_watch_56 rfl (by decide) rfl ?_
        refine y_goto C 4 dX1_watch_59 (by decide) ?_
        refine y_lsub C [2, 3, 0] (lv' := [(0, .ref h), (1, .int (zI had)), (2, .int (zI (c + 1)))]) rfl ?_
        exact ih4 had (c + 1) (zU sn1 c (-4)) (by omega) (by refine ⟨?_, by omega⟩; rw [hadZ_s per win d (by omega), ht]; first | (rw [if_pos (by omega)]; exact hhad.1) | (rw [if_neg (by omega)])) (by refine zU_ext hs ?_; unfold seeZ; rw [ht]; first | rw [if_pos (by omega)] | rw [if_neg (by omega), if_pos (by omega)] | rw [if_neg (by omega), if_neg (by omega)]) (by omega)

set_option maxHeartbeats 4000000 in
set_option maxRecDepth 100000 in
theorem m_X1_bind {l : Launch} {D : va_G} {cA cB : ClassId} {h a0 a1 a2 a3 a4 a5 : Nat} {per win cr : Int} {p bd ch : Int → Int} (hper : 6 ≤ per ∧ per ≤ 16) (hp : ∀ k : Int, 0 ≤ k → k < 32 → 0 ≤ p k ∧ p k ≤ 4) : MV l yX1_bind cX1_bind 3 { frames := 1, cells := 0, slots := 0, locals := 23 } D (zT cA cB) [.ref h] [cO h 1 [.ref a0, .ref a1, .ref a2, .ref a3, .ref a4, .ref a5, .int (zI per), .int (zI win), .int (zI cr)], cI cA a0 32 p, cI cA a4 32 bd, cI cA a5 32 ch] (fun w => ∃ (bd2 : Int → Int), ∃ (ch2 : Int → Int), w = [cO h 1 [.ref a0, .ref a1, .ref a2, .ref a3, .ref a4, .ref a5, .int (zI per), .int (zI win), .int (zI cr)], cI cA a0 32 p, cI cA a4 32 bd2, cI cA a5 32 ch2] ∧ (∀ k : Int, 0 ≤ k → k < 32 → bd2 k = bndZ per p k) ∧ (∀ k : Int, 0 ≤ k → k < 32 → ch2 k = chZ per p k)) := by
  refine MV.of RX1 ⟨rfl, by decide +kernel⟩ (Nat.le_of_ble_eq_true rfl) ?_
  intro K C hret
  change K 0 0 _ [(0, .ref h)] 0 []
  have hp2 : ∀ k : Int, 0 ≤ k → k < 32 → p k < per := fun k h1 h2 => by have := hp k h1 h2; omega
  refine y_aload_n C 0 dX1_bind_0 rfl ?_
  refine y_get C fg_X1_24 0 dX1_bind_1 rfl rfl ?_
  refine y_iconst C dX1_bind_4 ?_
  refine y_mcallvs C (m_J7_fill_53178 (l := l) (D := D) (cA := cA) (cB := cB) (a := a4) (N := 32) (g := bd) (v := 0) (by first | assumption | omega | exact ⟨by omega, by omega⟩) (by first | assumption | omega | exact ⟨by omega, by omega⟩)) lk_X1_73 [2] [0, 1, 3] ⟨rfl, rfl, by decide, by decide, by decide⟩ dX1_bind_5 rfl rfl ⟨by exact Nat.le_of_ble_eq_true rfl, by exact Nat.le_of_ble_eq_true rfl, rfl, rfl, by exact Nat.le_of_ble_eq_true rfl, by exact Nat.le_of_ble_eq_true rfl, by exact Nat.le_of_ble_eq_true rfl⟩ (fun w_4 h_1 => ?_)
  obtain ⟨g2_3, rfl, h_1⟩ := h_1
  refine ⟨[0, 1, 3, 2], [cO h 1 [.ref a0, .ref a1, .ref a2, .ref a3, .ref a4, .ref a5, .int (zI per), .int (zI win), .int (zI cr)], cI cA a0 32 p, cI cA a4 32 g2_3, cI cA a5 32 ch], ⟨rfl, by decide⟩, ?_⟩
  have hfill := h_1
  refine y_iconst C dX1_bind_8 ?_
  refine y_istore_n C [(1, .int (zI 0)), (0, .ref h)] dX1_bind_9 (by decide) rfl ?_
  refine y_lsub C [1, 0] (lv' := [(0, .ref h), (1, .int (zI 0))]) rfl ?_
  suffices hL10 : ∀ (fu : Nat) (c : Int) (bd1 : Int → Int) (ch1 : Int → Int), (0 ≤ c ∧ c ≤ 32) → (∀ k : Int, 0 ≤ k → k < 32 → bd1 k = zcnt (fun j => zb per p j = k) c) → (∀ k : Int, 0 ≤ k → k < c → ch1 k = chZ per p k) → (32 - c).toNat < fu → K 0 0 [cO h 1 [.ref a0, .ref a1, .ref a2, .ref a3, .ref a4, .ref a5, .int (zI per), .int (zI win), .int (zI cr)], cI cA a0 32 p, cI cA a4 32 bd1, cI cA a5 32 ch1] [(0, .ref h), (1, .int (zI c))] 10 [] from hL10 _ 0 g2_3 ch (by omega) (by intro k h1 h2; rw [hfill k h1 (by omega)]; rfl) (by intro k h1 h2; omega) (Nat.lt_succ_self _)
  intro f10
  induction f10 with
  | zero => exact fun _ _ _ _ _ _ hf => absurd hf (Nat.not_lt_zero _)
  | succ f10 ih10 =>
    intro c bd1 ch1 hc hb hh hf10
    refine y_iload_n C 1 dX1_bind_10 rfl ?_
    refine y_bipush C dX1_bind_11 (by decide +kernel) ?_
    refine y_icmp_ge C 66 dX1_bind_13 (by decide) ⟨⟨by omega, by omega⟩, ⟨by omega, by omega⟩⟩ (fun c_5 => ?_) (fun c_5 => ?_)
    · refine hret _ _ _ dX1_bind_66 ⟨bd1, ch1, rfl, ?_⟩
      show (∀ k : Int, 0 ≤ k → k < 32 → bd1 k = bndZ per p k) ∧ (∀ k : Int, 0 ≤ k → k < 32 → ch1 k = chZ per p k)
      exact ⟨fun k h1 h2 => by rw [hb k h1 h2, show c = 32 by omega]; rfl, fun k h1 h2 => hh k h1 (by omega)⟩
    · refine y_aload_n C 0 dX1_bind_16 rfl ?_
      refine y_iload_n C 1 dX1_bind_17 rfl ?_
      refine y_pcall C (m_X1_boundTo (l := l) (D := D) (cA := cA) (cB := cB) (h := h) (a0 := a0) (a1 := a1) (a2 := a2) (a3 := a3) (a4 := a4) (a5 := a5) (per := per) (win := win) (cr := cr) (p := p) (c := c) (by first | assumption | omega | exact ⟨by omega, by omega⟩) (by first | assumption | omega | exact ⟨by omega, by omega⟩) (by first | assumption | omega | exact ⟨by omega, by omega⟩)) lk_X1_82 [0, 1] [2, 3] [2, 3, 0, 1] ⟨rfl, rfl, by decide, by decide, by decide⟩ ⟨rfl, by decide⟩ rfl rfl dX1_bind_18 rfl rfl ⟨by exact Nat.le_of_ble_eq_true rfl, by exact Nat.le_of_ble_eq_true rfl, rfl, rfl, by exact Nat.le_of_ble_eq_true rfl, by exact Nat.le_of_ble_eq_true rfl, by exact Nat.le_of_ble_eq_true rfl⟩ (fun r_7 h_6 => ?_)
      have hzb := h_6
      refine y_istore_n C [(2, .int (zI r_7)), (0, .ref h), (1, .int (zI c))] dX1_bind_21 (by decide) rfl ?_
      refine y_iload_n C 0 dX1_bind_22 rfl ?_
      refine y_bipush C dX1_bind_23 (by decide +kernel) ?_
      refine y_icmp_ne C 38 dX1_bind_25 (by decide) ⟨⟨by omega, by omega⟩, ⟨by omega, by omega⟩⟩ (fun c_8 => ?_) (fun c_8 => ?_)
      · refine y_aload_n C 1 dX1_bind_38 rfl ?_
        refine y_get C fg_X1_27 0 dX1_bind_39 rfl rfl ?_
        refine y_iload_n C 2 dX1_bind_42 rfl ?_
        refine y_aload_n C 1 dX1_bind_43 rfl ?_
        refine y_get C fg_X1_27 0 dX1_bind_44 rfl rfl ?_
        refine y_iload_n C 0 dX1_bind_47 rfl ?_
        refine y_iald C 3 0 dX1_bind_48 rfl rfl ⟨by omega, by omega, by omega⟩ ?_
        have g0 := hh r_7 (by omega) (by omega)
        have g1 := chN_r hp2 32 r_7 (by omega) (by omega)
        refine y_iast C 3 0 [cO h 1 [.ref a0, .ref a1, .ref a2, .ref a3, .ref a4, .ref a5, .int (zI per), .int (zI win), .int (zI cr)], cI cA a0 32 p, cI cA a4 32 bd1, cI cA a5 32 (zU ch1 c (ch1 r_7))] dX1_bind_49 rfl rfl ⟨by omega, by omega, by omega⟩ rfl ?_
        refine y_aload_n C 1 dX1_bind_50 rfl ?_
        refine y_get C fg_X1_24 0 dX1_bind_51 rfl rfl ?_
        refine y_iload_n C 0 dX1_bind_54 rfl ?_
        refine y_dup2 C dX1_bind_55 rfl rfl ?_
        refine y_iald C 2 0 dX1_bind_56 rfl rfl ⟨by omega, by omega, by omega⟩ ?_
        refine y_iconst C dX1_bind_57 ?_
        refine y_iadd C dX1_bind_58 ?_
        refine y_iast C 2 0 [cO h 1 [.ref a0, .ref a1, .ref a2, .ref a3, .ref a4, .ref a5, .int (zI per), .int (zI win), .int (zI cr)], cI cA a0 32 p, cI cA a4 32 (zU bd1 r_7 ((bd1 r_7) + 1)), cI cA a5 32 (zU ch1 c (ch1 r_7))] dX1_bind_59 rfl rfl ⟨by omega, by omega, by omega⟩ rfl ?_
        refine y_iinc C 2 [(1, .int (zI (c + 1))), (2, .int (zI r_7)), (0, .ref h)] dX1_bind_60 rfl (by decide) rfl ?_
        refine y_goto C 10 dX1_bind_63 (by decide) ?_
        refine y_lsub C [2, 0] (lv' := [(0, .ref h), (1, .int (zI (c + 1)))]) rfl ?_
        exact ih10 (c + 1) (zU bd1 r_7 ((bd1 r_7) + 1)) (zU ch1 c (ch1 r_7)) (by omega) (by first | exact (fun k h1 h2 => zcnt_step (n := bd1 k) (by omega) (hb k h1 h2) (by omega)) | exact (fun k h1 h2 => zcnt_step (n := bd1 k) (by omega) (hb k h1 h2) ((Classical.em (k = r_7)).elim (fun e => by rw [e, zU_s]; omega) (fun e => by rw [zU_n e]; omega)))) (by refine zU_ext hh ?_; first | exact (chZ_f (by omega)).symm | (rw [chZ_b hp2 ⟨by omega, by omega⟩ (t := r_7) (by omega) (by omega)]; exact hh r_7 (by omega) (by omega))) (by omega)
      · refine y_aload_n C 1 dX1_bind_28 rfl ?_
        refine y_get C fg_X1_27 0 dX1_bind_29 rfl rfl ?_
        refine y_iload_n C 2 dX1_bind_32 rfl ?_
        refine y_iload_n C 2 dX1_bind_33 rfl ?_
        refine y_iast C 3 0 [cO h 1 [.ref a0, .ref a1, .ref a2, .ref a3, .ref a4, .ref a5, .int (zI per), .int (zI win), .int (zI cr)], cI cA a0 32 p, cI cA a4 32 bd1, cI cA a5 32 (zU ch1 c c)] dX1_bind_34 rfl rfl ⟨by omega, by omega, by omega⟩ rfl ?_
        refine y_goto C 60 dX1_bind_35 (by decide) ?_
        refine y_iinc C 2 [(1, .int (zI (c + 1))), (2, .int (zI r_7)), (0, .ref h)] dX1_bind_60 rfl (by decide) rfl ?_
        refine y_goto C 10 dX1_bind_63 (by decide) ?_
        refine y_lsub C [2, 0] (lv' := [(0, .ref h), (1, .int (zI (c + 1)))]) rfl ?_
        exact ih10 (c + 1) bd1 (zU ch1 c c) (by omega) (by first | exact (fun k h1 h2 => zcnt_step (n := bd1 k) (by omega) (hb k h1 h2) (by omega)) | exact (fun k h1 h2 => zcnt_step (n := bd1 k) (by omega) (hb k h1 h2) ((Classical.em (k = r_7)).elim (fun e => by rw [e, zU_s]; omega) (fun e => by rw [zU_n e]; omega)))) (by refine zU_ext hh ?_; first | exact (chZ_f (by omega)).symm | (rw [chZ_b hp2 ⟨by omega, by omega⟩ (t := r_7) (by omega) (by omega)]; exact hh r_7 (by omega) (by omega))) (by omega)

set_option maxHeartbeats 4000000 in
set_option maxRecDepth 100000 in
theorem m_X1_isTorn {l : Launch} {D : va_G} {cA cB : ClassId} {h a0 a1 a2 a3 a4 a5 : Nat} {per win cr : Int} {p d : Int → Int} {c : Int} (hc : 0 ≤ c ∧ c < 32) (hper : 6 ≤ per ∧ per ≤ 16) (hp : ∀ k : Int, 0 ≤ k → k < 32 → 0 ≤ p k ∧ p k ≤ 4) (hd : ∀ k : Int, 0 ≤ k → k < 32 → 0 ≤ d k ∧ d k ≤ 7) : MI l yX1_isTorn cX1_isTorn 3 .boolean { frames := 1, cells := 0, slots := 0, locals := 22 } D (zT cA cB) [.ref h, .int (zI c)] [cO h 1 [.ref a0, .ref a1, .ref a2, .ref a3, .ref a4, .ref a5, .int (zI per), .int (zI win), .int (zI cr)], cI cA a0 32 p, cI cA a1 32 d] (fun r w => w = [cO h 1 [.ref a0, .ref a1, .ref a2, .ref a3, .ref a4, .ref a5, .int (zI per), .int (zI win), .int (zI cr)], cI cA a0 32 p, cI cA a1 32 d] ∧ ((r = 1 ∧ (¬ zb per p c = -4 ∧ ¬ d c = d (zb per p c))) ∨ (r = 0 ∧ ¬ (¬ zb per p c = -4 ∧ ¬ d c = d (zb per p c))))) := by
  refine MI.of RX1 ⟨rfl, by decide +kernel⟩ (Or.inr rfl) (Nat.le_of_ble_eq_true rfl) (fun _ r w h => by rcases h.2 with h | h; exact Or.inr h.1; exact Or.inl h.1) ?_
  intro K C hret
  change K 0 0 _ [(0, .ref h), (1, .int (zI c))] 0 []
  refine y_aload_n C 0 dX1_isTorn_0 rfl ?_
  refine y_iload_n C 1 dX1_isTorn_1 rfl ?_
  refine y_pcall C (m_X1_boundTo (l := l) (D := D) (cA := cA) (cB := cB) (h := h) (a0 := a0) (a1 := a1) (a2 := a2) (a3 := a3) (a4 := a4) (a5 := a5) (per := per) (win := win) (cr := cr) (p := p) (c := c) (by first | assumption | omega | exact ⟨by omega, by omega⟩) (by first | assumption | omega | exact ⟨by omega, by omega⟩) (by first | assumption | omega | exact ⟨by omega, by omega⟩)) lk_X1_82 [0, 1] [2] [1, 2, 0] ⟨rfl, rfl, by decide, by decide, by decide⟩ ⟨rfl, by decide⟩ rfl rfl dX1_isTorn_2 rfl rfl ⟨by exact Nat.le_of_ble_eq_true rfl, by exact Nat.le_of_ble_eq_true rfl, rfl, rfl, by exact Nat.le_of_ble_eq_true rfl, by exact Nat.le_of_ble_eq_true rfl, by exact Nat.le_of_ble_eq_true rfl⟩ (fun r_2 h_1 => ?_)
  have hz := (h_1).1
  have hz2 := (h_1).2
  refine y_istore_n C [(2, .int (zI r_2)), (0, .ref h), (1, .int (zI c))] dX1_isTorn_5 (by decide) rfl ?_
  refine y_iload_n C 0 dX1_isTorn_6 rfl ?_
  refine y_bipush C dX1_isTorn_7 (by decide +kernel) ?_
  refine y_icmp_eq C 31 dX1_isTorn_9 (by decide) ⟨⟨by omega, by omega⟩, ⟨by omega, by omega⟩⟩ (fun c_3 => ?_) (fun c_3 => ?_)
  · refine y_iconst C dX1_isTorn_31 ?_
    refine hret _ _ _ _ dX1_isTorn_32 ⟨rfl, ?_⟩
    show ((0 = 1 ∧ (¬ zb per p c = -4 ∧ ¬ d c = d (zb per p c))) ∨ (0 = 0 ∧ ¬ (¬ zb per p c = -4 ∧ ¬ d c = d (zb per p c))))
    rw [← hz]; omega
  · refine y_aload_n C 1 dX1_isTorn_12 rfl ?_
    refine y_get C fg_X1_15 0 dX1_isTorn_13 rfl rfl ?_
    refine y_iload_n C 2 dX1_isTorn_16 rfl ?_
    refine y_iald C 2 0 dX1_isTorn_17 rfl rfl ⟨by omega, by omega, by omega⟩ ?_
    have g_4 := hd c (by omega) (by omega)
    refine y_aload_n C 1 dX1_isTorn_18 rfl ?_
    refine y_get C fg_X1_15 0 dX1_isTorn_19 rfl rfl ?_
    refine y_iload_n C 0 dX1_isTorn_22 rfl ?_
    refine y_iald C 2 0 dX1_isTorn_23 rfl rfl ⟨by omega, by omega, by omega⟩ ?_
    have g_5 := hd r_2 (by omega) (by omega)
    refine y_icmp_eq C 31 dX1_isTorn_24 (by decide) ⟨⟨by omega, by omega⟩, ⟨by omega, by omega⟩⟩ (fun c_6 => ?_) (fun c_6 => ?_)
    · refine y_iconst C dX1_isTorn_31 ?_
      refine hret _ _ _ _ dX1_isTorn_32 ⟨rfl, ?_⟩
      show ((0 = 1 ∧ (¬ zb per p c = -4 ∧ ¬ d c = d (zb per p c))) ∨ (0 = 0 ∧ ¬ (¬ zb per p c = -4 ∧ ¬ d c = d (zb per p c))))
      rw [← hz]; omega
    · refine y_iconst C dX1_isTorn_27 ?_
      refine y_goto C 32 dX1_isTorn_28 (by decide) ?_
      refine hret _ _ _ _ dX1_isTorn_32 ⟨rfl, ?_⟩
      show ((1 = 1 ∧ (¬ zb per p c = -4 ∧ ¬ d c = d (zb per p c))) ∨ (1 = 0 ∧ ¬ (¬ zb per p c = -4 ∧ ¬ d c = d (zb per p c))))
      rw [← hz]; omega

set_option maxHeartbeats 4000000 in
set_option maxRecDepth 100000 in
theorem m_X1_isOfKind {l : Launch} {D : va_G} {cA cB : ClassId} {h a0 a1 a2 a3 a4 a5 : Nat} {per win cr : Int} {p d mm sn bd : Int → Int} {c kind : Int} (hc : 0 ≤ c ∧ c < 32) (hkind : 0 ≤ kind ∧ kind ≤ 7) (hper : 6 ≤ per ∧ per ≤ 16) (hp : ∀ k : Int, 0 ≤ k → k < 32 → 0 ≤ p k ∧ p k ≤ 4) (hd : ∀ k : Int, 0 ≤ k → k < 32 → 0 ≤ d k ∧ d k ≤ 7) (hmm : ∀ k : Int, 0 ≤ k → k < 32 → -4 ≤ mm k ∧ mm k ≤ 7) (hsn : ∀ k : Int, 0 ≤ k → k < 32 → -4 ≤ sn k ∧ sn k ≤ 4) (hbd : ∀ k : Int, 0 ≤ k → k < 32 → 0 ≤ bd k ∧ bd k ≤ 32) : MI l yX1_isOfKind cX1_isOfKind 3 .boolean { frames := 2, cells := 0, slots := 0, locals := 44 } D (zT cA cB) [.ref h, .int (zI c), .int (zI kind)] [cO h 1 [.ref a0, .ref a1, .ref a2, .ref a3, .ref a4, .ref a5, .int (zI per), .int (zI win), .int (zI cr)], cI cA a0 32 p, cI cA a1 32 d, cI cA a2 32 mm, cI cA a3 32 sn, cI cA a4 32 bd] (fun r w => w = [cO h 1 [.ref a0, .ref a1, .ref a2, .ref a3, .ref a4, .ref a5, .int (zI per), .int (zI win), .int (zI cr)], cI cA a0 32 p, cI cA a1 32 d, cI cA a2 32 mm, cI cA a3 32 sn, cI cA a4 32 bd] ∧ ((r = 1 ∧ (kindP per p d mm sn bd kind c)) ∨ (r = 0 ∧ ¬ (kindP per p d mm sn bd kind c)))) := by
  refine MI.of RX1 ⟨rfl, by decide +kernel⟩ (Or.inr rfl) (Nat.le_of_ble_eq_true rfl) (fun _ r w h => by rcases h.2 with h | h; exact Or.inr h.1; exact Or.inl h.1) ?_
  intro K C hret
  change K 0 0 _ [(0, .ref h), (1, .int (zI c)), (2, .int (zI kind))] 0 []
  refine y_iload_n C 2 dX1_isOfKind_0 rfl ?_
  rcases (show kind = 0 ∨ kind = 1 ∨ kind = 2 ∨ kind = 3 ∨ kind = 4 ∨ kind = 5 ∨ kind = 6 ∨ kind = 7 from by omega) with s_1 | s_1 | s_1 | s_1 | s_1 | s_1 | s_1 | s_1
  · refine y_tin C 48 0 dX1_isOfKind_1 ⟨by omega, by omega⟩ ⟨by omega, by omega⟩ (by omega) rfl (by decide) ?_
    refine y_aload_n C 0 dX1_isOfKind_48 rfl ?_
    refine y_iload_n C 1 dX1_isOfKind_49 rfl ?_
    refine y_pcall C (m_X1_boundTo (l := l) (D := D) (cA := cA) (cB := cB) (h := h) (a0 := a0) (a1 := a1) (a2 := a2) (a3 := a3) (a4 := a4) (a5 := a5) (per := per) (win := win) (cr := cr) (p := p) (c := c) (by first | assumption | omega | exact ⟨by omega, by omega⟩) (by first | assumption | omega | exact ⟨by omega, by omega⟩) (by first | assumption | omega | exact ⟨by omega, by omega⟩)) lk_X1_82 [0, 1] [2, 3, 4, 5] [4, 5, 0, 1, 2, 3] ⟨rfl, rfl, by decide, by decide, by decide⟩ ⟨rfl, by decide⟩ rfl rfl dX1_isOfKind_50 rfl rfl ⟨by exact Nat.le_of_ble_eq_true rfl, by exact Nat.le_of_ble_eq_true rfl, rfl, rfl, by exact Nat.le_of_ble_eq_true rfl, by exact Nat.le_of_ble_eq_true rfl, by exact Nat.le_of_ble_eq_true rfl⟩ (fun r_3 h_2 => ?_)
    have hz := h_2
    refine y_bipush C dX1_isOfKind_53 (by decide +kernel) ?_
    refine y_icmp_ne C 62 dX1_isOfKind_55 (by decide) ⟨⟨by omega, by omega⟩, ⟨by omega, by omega⟩⟩ (fun c_4 => ?_) (fun c_4 => ?_)
    · refine y_iconst C dX1_isOfKind_62 ?_
      refine hret _ _ _ _ dX1_isOfKind_63 ⟨rfl, ?_⟩
      show ((0 = 1 ∧ (kindP per p d mm sn bd kind c)) ∨ (0 = 0 ∧ ¬ (kindP per p d mm sn bd kind c)))
      unfold kindP; omega
    · refine y_iconst C dX1_isOfKind_58 ?_
      refine y_goto C 63 dX1_isOfKind_59 (by decide) ?_
      refine hret _ _ _ _ dX1_isOfKind_63 ⟨rfl, ?_⟩
      show ((1 = 1 ∧ (kindP per p d mm sn bd kind c)) ∨ (1 = 0 ∧ ¬ (kindP per p d mm sn bd kind c)))
      unfold kindP; omega
  · refine y_tin C 64 1 dX1_isOfKind_1 ⟨by omega, by omega⟩ ⟨by omega, by omega⟩ (by omega) rfl (by decide) ?_
    refine y_aload_n C 0 dX1_isOfKind_64 rfl ?_
    refine y_get C fg_X1_24 0 dX1_isOfKind_65 rfl rfl ?_
    refine y_iload_n C 1 dX1_isOfKind_68 rfl ?_
    refine y_iald C 5 0 dX1_isOfKind_69 rfl rfl ⟨by omega, by omega, by omega⟩ ?_
    have g_5 := hbd c (by omega) (by omega)
    refine y_iconst C dX1_isOfKind_70 ?_
    refine y_icmp_lt C 78 dX1_isOfKind_71 (by decide) ⟨⟨by omega, by omega⟩, ⟨by omega, by omega⟩⟩ (fun c_6 => ?_) (fun c_6 => ?_)
    · refine y_iconst C dX1_isOfKind_78 ?_
      refine hret _ _ _ _ dX1_isOfKind_79 ⟨rfl, ?_⟩
      show ((0 = 1 ∧ (kindP per p d mm sn bd kind c)) ∨ (0 = 0 ∧ ¬ (kindP per p d mm sn bd kind c)))
      unfold kindP; omega
    · refine y_iconst C dX1_isOfKind_74 ?_
      refine y_goto C 79 dX1_isOfKind_75 (by decide) ?_
      refine hret _ _ _ _ dX1_isOfKind_79 ⟨rfl, ?_⟩
      show ((1 = 1 ∧ (kindP per p d mm sn bd kind c)) ∨ (1 = 0 ∧ ¬ (kindP per p d mm sn bd kind c)))
      unfold kindP; omega
  · refine y_tin C 80 2 dX1_isOfKind_1 ⟨by omega, by omega⟩ ⟨by omega, by omega⟩ (by omega) rfl (by decide) ?_
    refine y_aload_n C 0 dX1_isOfKind_80 rfl ?_
    refine y_get C fg_X1_24 0 dX1_isOfKind_81 rfl rfl ?_
    refine y_iload_n C 1 dX1_isOfKind_84 rfl ?_
    refine y_iald C 5 0 dX1_isOfKind_85 rfl rfl ⟨by omega, by omega, by omega⟩ ?_
    have g_7 := hbd c (by omega) (by omega)
    refine y_if_ne C 93 dX1_isOfKind_86 (by decide) ⟨by omega, by omega⟩ (fun c_8 => ?_) (fun c_8 => ?_)
    · refine y_iconst C dX1_isOfKind_93 ?_
      refine hret _ _ _ _ dX1_isOfKind_94 ⟨rfl, ?_⟩
      show ((0 = 1 ∧ (kindP per p d mm sn bd kind c)) ∨ (0 = 0 ∧ ¬ (kindP per p d mm sn bd kind c)))
      unfold kindP; omega
    · refine y_iconst C dX1_isOfKind_89 ?_
      refine y_goto C 94 dX1_isOfKind_90 (by decide) ?_
      refine hret _ _ _ _ dX1_isOfKind_94 ⟨rfl, ?_⟩
      show ((1 = 1 ∧ (kindP per p d mm sn bd kind c)) ∨ (1 = 0 ∧ ¬ (kindP per p d mm sn bd kind c)))
      unfold kindP; omega
  · refine y_tin C 95 3 dX1_isOfKind_1 ⟨by omega, by omega⟩ ⟨by omega, by omega⟩ (by omega) rfl (by decide) ?_
    refine y_aload_n C 0 dX1_isOfKind_95 rfl ?_
    refine y_iload_n C 1 dX1_isOfKind_96 rfl ?_
    refine y_pcall C (m_X1_isTorn (l := l) (D := D) (cA := cA) (cB := cB) (h := h) (a0 := a0) (a1 := a1) (a2 := a2) (a3 := a3) (a4 := a4) (a5 := a5) (per := per) (win := win) (cr := cr) (p := p) (d := d) (c := c) (by first | assumption | omega | exact ⟨by omega, by omega⟩) (by first | assumption | omega | exact ⟨by omega, by omega⟩) (by first | assumption | omega | exact ⟨by omega, by omega⟩) (by first | assumption | omega | exact ⟨by omega, by omega⟩)) lk_X1_110 [0, 1, 2] [3, 4, 5] [3, 4, 5, 0, 1, 2] ⟨rfl, rfl, by decide, by decide, by decide⟩ ⟨rfl, by decide⟩ rfl rfl dX1_isOfKind_97 rfl rfl ⟨by exact Nat.le_of_ble_eq_true rfl, by exact Nat.le_of_ble_eq_true rfl, rfl, rfl, by exact Nat.le_of_ble_eq_true rfl, by exact Nat.le_of_ble_eq_true rfl, by exact Nat.le_of_ble_eq_true rfl⟩ (fun r_10 h_9 => ?_)
    have hz := h_9
    refine hret _ _ _ _ dX1_isOfKind_100 ⟨rfl, ?_⟩
    show ((r_10 = 1 ∧ (kindP per p d mm sn bd kind c)) ∨ (r_10 = 0 ∧ ¬ (kindP per p d mm sn bd kind c)))
    unfold kindP; omega
  · refine y_tin C 101 4 dX1_isOfKind_1 ⟨by omega, by omega⟩ ⟨by omega, by omega⟩ (by omega) rfl (by decide) ?_
    refine y_aload_n C 0 dX1_isOfKind_101 rfl ?_
    refine y_get C fg_X1_21 0 dX1_isOfKind_102 rfl rfl ?_
    refine y_iload_n C 1 dX1_isOfKind_105 rfl ?_
    refine y_iald C 4 0 dX1_isOfKind_106 rfl rfl ⟨by omega, by omega, by omega⟩ ?_
    have g_11 := hsn c (by omega) (by omega)
    refine y_aload_n C 0 dX1_isOfKind_107 rfl ?_
    refine y_get C fg_X1_9 0 dX1_isOfKind_108 rfl rfl ?_
    refine y_iload_n C 1 dX1_isOfKind_111 rfl ?_
    refine y_iald C 1 0 dX1_isOfKind_112 rfl rfl ⟨by omega, by omega, by omega⟩ ?_
    have g_12 := hp c (by omega) (by omega)
    refine y_icmp_ne C 120 dX1_isOfKind_113 (by decide) ⟨⟨by omega, by omega⟩, ⟨by omega, by omega⟩⟩ (fun c_13 => ?_) (fun c_13 => ?_)
    · refine y_iconst C dX1_isOfKind_120 ?_
      refine hret _ _ _ _ dX1_isOfKind_121 ⟨rfl, ?_⟩
      show ((0 = 1 ∧ (kindP per p d mm sn bd kind c)) ∨ (0 = 0 ∧ ¬ (kindP per p d mm sn bd kind c)))
      unfold kindP; omega
    · refine y_iconst C dX1_isOfKind_116 ?_
      refine y_goto C 121 dX1_isOfKind_117 (by decide) ?_
      refine hret _ _ _ _ dX1_isOfKind_121 ⟨rfl, ?_⟩
      show ((1 = 1 ∧ (kindP per p d mm sn bd kind c)) ∨ (1 = 0 ∧ ¬ (kindP per p d mm sn bd kind c)))
      unfold kindP; omega
  · refine y_tin C 122 5 dX1_isOfKind_1 ⟨by omega, by omega⟩ ⟨by omega, by omega⟩ (by omega) rfl (by decide) ?_
    refine y_aload_n C 0 dX1_isOfKind_122 rfl ?_
    refine y_get C fg_X1_21 0 dX1_isOfKind_123 rfl rfl ?_
    refine y_iload_n C 1 dX1_isOfKind_126 rfl ?_
    refine y_iald C 4 0 dX1_isOfKind_127 rfl rfl ⟨by omega, by omega, by omega⟩ ?_
    have g_14 := hsn c (by omega) (by omega)
    refine y_bipush C dX1_isOfKind_128 (by decide +kernel) ?_
    refine y_icmp_eq C 152 dX1_isOfKind_130 (by decide) ⟨⟨by omega, by omega⟩, ⟨by omega, by omega⟩⟩ (fun c_15 => ?_) (fun c_15 => ?_)
    · refine y_iconst C dX1_isOfKind_152 ?_
      refine hret _ _ _ _ dX1_isOfKind_153 ⟨rfl, ?_⟩
      show ((0 = 1 ∧ (kindP per p d mm sn bd kind c)) ∨ (0 = 0 ∧ ¬ (kindP per p d mm sn bd kind c)))
      unfold kindP; omega
    · refine y_aload_n C 0 dX1_isOfKind_133 rfl ?_
      refine y_get C fg_X1_21 0 dX1_isOfKind_134 rfl rfl ?_
      refine y_iload_n C 1 dX1_isOfKind_137 rfl ?_
      refine y_iald C 4 0 dX1_isOfKind_138 rfl rfl ⟨by omega, by omega, by omega⟩ ?_
      have g_16 := hsn c (by omega) (by omega)
      refine y_aload_n C 0 dX1_isOfKind_139 rfl ?_
      refine y_get C fg_X1_9 0 dX1_isOfKind_140 rfl rfl ?_
      refine y_iload_n C 1 dX1_isOfKind_143 rfl ?_
      refine y_iald C 1 0 dX1_isOfKind_144 rfl rfl ⟨by omega, by omega, by omega⟩ ?_
      have g_17 := hp c (by omega) (by omega)
      refine y_icmp_eq C 152 dX1_isOfKind_145 (by decide) ⟨⟨by omega, by omega⟩, ⟨by omega, by omega⟩⟩ (fun c_18 => ?_) (fun c_18 => ?_)
      · refine y_iconst C dX1_isOfKind_152 ?_
        refine hret _ _ _ _ dX1_isOfKind_153 ⟨rfl, ?_⟩
        show ((0 = 1 ∧ (kindP per p d mm sn bd kind c)) ∨ (0 = 0 ∧ ¬ (kindP per p d mm sn bd kind c)))
        unfold kindP; omega
      · refine y_iconst C dX1_isOfKind_148 ?_
        refine y_goto C 153 dX1_isOfKind_149 (by decide) ?_
        refine hret _ _ _ _ dX1_isOfKind_153 ⟨rfl, ?_⟩
        show ((1 = 1 ∧ (kindP per p d mm sn bd kind c)) ∨ (1 = 0 ∧ ¬ (kindP per p d mm sn bd kind c)))
        unfold kindP; omega
  · refine y_tin C 154 6 dX1_isOfKind_1 ⟨by omega, by omega⟩ ⟨by omega, by omega⟩ (by omega) rfl (by decide) ?_
    refine y_aload_n C 0 dX1_isOfKind_154 rfl ?_
    refine y_get C fg_X1_21 0 dX1_isOfKind_155 rfl rfl ?_
    refine y_iload_n C 1 dX1_isOfKind_158 rfl ?_
    refine y_iald C 4 0 dX1_isOfKind_159 rfl rfl ⟨by omega, by omega, by omega⟩ ?_
    have g_19 := hsn c (by omega) (by omega)
    refine y_bipush C dX1_isOfKind_160 (by decide +kernel) ?_
    refine y_icmp_ne C 169 dX1_isOfKind_162 (by decide) ⟨⟨by omega, by omega⟩, ⟨by omega, by omega⟩⟩ (fun c_20 => ?_) (fun c_20 => ?_)
    · refine y_iconst C dX1_isOfKind_169 ?_
      refine hret _ _ _ _ dX1_isOfKind_170 ⟨rfl, ?_⟩
      show ((0 = 1 ∧ (kindP per p d mm sn bd kind c)) ∨ (0 = 0 ∧ ¬ (kindP per p d mm sn bd kind c)))
      unfold kindP; omega
    · refine y_iconst C dX1_isOfKind_165 ?_
      refine y_goto C 170 dX1_isOfKind_166 (by decide) ?_
      refine hret _ _ _ _ dX1_isOfKind_170 ⟨rfl, ?_⟩
      show ((1 = 1 ∧ (kindP per p d mm sn bd kind c)) ∨ (1 = 0 ∧ ¬ (kindP per p d mm sn bd kind c)))
      unfold kindP; omega
  · refine y_tin C 171 7 dX1_isOfKind_1 ⟨by omega, by omega⟩ ⟨by omega, by omega⟩ (by omega) rfl (by decide) ?_
    refine y_aload_n C 0 dX1_isOfKind_171 rfl ?_
    refine y_get C fg_X1_18 0 dX1_isOfKind_172 rfl rfl ?_
    refine y_iload_n C 1 dX1_isOfKind_175 rfl ?_
    refine y_iald C 3 0 dX1_isOfKind_176 rfl rfl ⟨by omega, by omega, by omega⟩ ?_
    have g_21 := hmm c (by omega) (by omega)
    refine y_bipush C dX1_isOfKind_177 (by decide +kernel) ?_
    refine y_icmp_eq C 186 dX1_isOfKind_179 (by decide) ⟨⟨by omega, by omega⟩, ⟨by omega, by omega⟩⟩ (fun c_22 => ?_) (fun c_22 => ?_)
    · refine y_iconst C dX1_isOfKind_186 ?_
      refine hret _ _ _ _ dX1_isOfKind_187 ⟨rfl, ?_⟩
      show ((0 = 1 ∧ (kindP per p d mm sn bd kind c)) ∨ (0 = 0 ∧ ¬ (kindP per p d mm sn bd kind c)))
      unfold kindP; omega
    · refine y_iconst C dX1_isOfKind_182 ?_
      refine y_goto C 187 dX1_isOfKind_183 (by decide) ?_
      refine hret _ _ _ _ dX1_isOfKind_187 ⟨rfl, ?_⟩
      show ((1 = 1 ∧ (kindP per p d mm sn bd kind c)) ∨ (1 = 0 ∧ ¬ (kindP per p d mm sn bd kind c)))
      unfold kindP; omega

set_option maxHeartbeats 4000000 in
set_option maxRecDepth 100000 in
theorem m_X1_placesOfKind {l : Launch} {D : va_G} {cA cB : ClassId} {h a0 a1 a2 a3 a4 a5 : Nat} {per win cr : Int} {p d mm sn bd : Int → Int} {kind : Int} (hkind : 0 ≤ kind ∧ kind ≤ 7) (hper : 6 ≤ per ∧ per ≤ 16) (hp : ∀ k : Int, 0 ≤ k → k < 32 → 0 ≤ p k ∧ p k ≤ 4) (hd : ∀ k : Int, 0 ≤ k → k < 32 → 0 ≤ d k ∧ d k ≤ 7) (hmm : ∀ k : Int, 0 ≤ k → k < 32 → -4 ≤ mm k ∧ mm k ≤ 7) (hsn : ∀ k : Int, 0 ≤ k → k < 32 → -4 ≤ sn k ∧ sn k ≤ 4) (hbd : ∀ k : Int, 0 ≤ k → k < 32 → 0 ≤ bd k ∧ bd k ≤ 32) : MI l yX1_placesOfKind cX1_placesOfKind 4 .int { frames := 3, cells := 0, slots := 0, locals := 66 } D (zT cA cB) [.ref h, .int (zI kind)] [cO h 1 [.ref a0, .ref a1, .ref a2, .ref a3, .ref a4, .ref a5, .int (zI per), .int (zI win), .int (zI cr)], cI cA a0 32 p, cI cA a1 32 d, cI cA a2 32 mm, cI cA a3 32 sn, cI cA a4 32 bd] (fun r w => w = [cO h 1 [.ref a0, .ref a1, .ref a2, .ref a3, .ref a4, .ref a5, .int (zI per), .int (zI win), .int (zI cr)], cI cA a0 32 p, cI cA a1 32 d, cI cA a2 32 mm, cI cA a3 32 sn, cI cA a4 32 bd] ∧ r = zcnt (kindP per p d mm sn bd kind) 32 ∧ 0 ≤ r ∧ r ≤ 32) := by
  refine MI.of RX1 ⟨rfl, by decide +kernel⟩ (Or.inl rfl) (Nat.le_of_ble_eq_true rfl) (fun h => by cases h) ?_
  intro K C hret
  change K 0 0 _ [(0, .ref h), (1, .int (zI kind))] 0 []
  refine y_iconst C dX1_placesOfKind_0 ?_
  refine y_istore_n C [(2, .int (zI 0)), (0, .ref h), (1, .int (zI kind))] dX1_placesOfKind_1 (by decide) rfl ?_
  refine y_iconst C dX1_placesOfKind_2 ?_
  refine y_istore_n C [(3, .int (zI 0)), (2, .int (zI 0)), (0, .ref h), (1, .int (zI kind))] dX1_placesOfKind_3 (by decide) rfl ?_
  refine y_lsub C [2, 3, 1, 0] (lv' := [(0, .ref h), (1, .int (zI kind)), (2, .int (zI 0)), (3, .int (zI 0))]) rfl ?_
  suffices hL4 : ∀ (fu : Nat) (n : Int) (c : Int), (0 ≤ c ∧ c ≤ 32) → (n = zcnt (kindP per p d mm sn bd kind) c ∧ 0 ≤ n ∧ n ≤ c) → (32 - c).toNat < fu → K 0 0 [cO h 1 [.ref a0, .ref a1, .ref a2, .ref a3, .ref a4, .ref a5, .int (zI per), .int (zI win), .int (zI cr)], cI cA a0 32 p, cI cA a1 32 d, cI cA a2 32 mm, cI cA a3 32 sn, cI cA a4 32 bd] [(0, .ref h), (1, .int (zI kind)), (2, .int (zI n)), (3, .int (zI c))] 4 [] from hL4 _ 0 0 (by omega) (by exact ⟨(zcnt_0 _).symm, by omega, by omega⟩) (Nat.lt_succ_self _)
  intro f4
  induction f4 with
  | zero => exact fun _ _ _ _ hf => absurd hf (Nat.not_lt_zero _)
  | succ f4 ih4 =>
    intro n c hc hn hf4
    refine y_iload_n C 3 dX1_placesOfKind_4 rfl ?_
    refine y_bipush C dX1_placesOfKind_5 (by decide +kernel) ?_
    refine y_icmp_ge C 28 dX1_placesOfKind_7 (by decide) ⟨⟨by omega, by omega⟩, ⟨by omega, by omega⟩⟩ (fun c_1 => ?_) (fun c_1 => ?_)
    · refine y_iload_n C 2 dX1_placesOfKind_28 rfl ?_
      refine hret _ _ _ _ dX1_placesOfKind_29 ⟨rfl, ?_⟩
      show n = zcnt (kindP per p d mm sn bd kind) 32 ∧ 0 ≤ n ∧ n ≤ 32
      rw [show (32 : Int) = c by omega]; omega
    · refine y_aload_n C 0 dX1_placesOfKind_10 rfl ?_
      refine y_iload_n C 3 dX1_placesOfKind_11 rfl ?_
      refine y_iload_n C 1 dX1_placesOfKind_12 rfl ?_
      refine y_pcall C (m_X1_isOfKind (l := l) (D := D) (cA := cA) (cB := cB) (h := h) (a0 := a0) (a1 := a1) (a2 := a2) (a3 := a3) (a4 := a4) (a5 := a5) (per := per) (win := win) (cr := cr) (p := p) (d := d) (mm := mm) (sn := sn) (bd := bd) (c := c) (kind := kind) (by first | assumption | omega | exact ⟨by omega, by omega⟩) (by first | assumption | omega | exact ⟨by omega, by omega⟩) (by first | assumption | omega | exact ⟨by omega, by omega⟩) (by first | assumption | omega | exact ⟨by omega, by omega⟩) (by first | assumption | omega | exact ⟨by omega, by omega⟩) (by first | assumption | omega | exact ⟨by omega, by omega⟩) (by first | assumption | omega | exact ⟨by omega, by omega⟩) (by first | assumption | omega | exact ⟨by omega, by omega⟩)) lk_X1_107 [0, 1, 2, 3, 4, 5] [] [0, 1, 2, 3, 4, 5] ⟨rfl, rfl, by decide, by decide, by decide⟩ ⟨rfl, by decide⟩ rfl rfl dX1_placesOfKind_13 rfl rfl ⟨by exact Nat.le_of_ble_eq_true rfl, by exact Nat.le_of_ble_eq_true rfl, rfl, rfl, by exact Nat.le_of_ble_eq_true rfl, by exact Nat.le_of_ble_eq_true rfl, by exact Nat.le_of_ble_eq_true rfl⟩ (fun r_3 h_2 => ?_)
      have hk := h_2
      refine y_if_eq C 22 dX1_placesOfKind_16 (by decide) ⟨by omega, by omega⟩ (fun c_4 => ?_) (fun c_4 => ?_)
      · refine y_iinc C 3 [(3, .int (zI (c + 1))), (0, .ref h), (1, .int (zI kind)), (2, .int (zI n))] dX1_placesOfKind_22 rfl (by decide) rfl ?_
        refine y_goto C 4 dX1_placesOfKind_25 (by decide) ?_
        refine y_lsub C [1, 2, 3, 0] (lv' := [(0, .ref h), (1, .int (zI kind)), (2, .int (zI n)), (3, .int (zI (c + 1)))]) rfl ?_
        exact ih4 n (c + 1) (by omega) (by refine ⟨?_, by omega, by omega⟩; first | (rw [zcnt_t (by omega) (show kindP per p d mm sn bd kind c from by rcases hk with q | q; exact q.2; omega)]; omega) | (rw [zcnt_f (by omega) (show ¬ kindP per p d mm sn bd kind c from by rcases hk with q | q; omega; exact q.2)]; omega)) (by omega)
      · refine y_iinc C 2 [(2, .int (zI (n + 1))), (0, .ref h), (1, .int (zI kind)), (3, .int (zI c))] dX1_placesOfKind_19 rfl (by decide) rfl ?_
        refine y_iinc C 3 [(3, .int (zI (c + 1))), (2, .int (zI (n + 1))), (0, .ref h), (1, .int (zI kind))] dX1_placesOfKind_22 rfl (by decide) rfl ?_
        refine y_goto C 4 dX1_placesOfKind_25 (by decide) ?_
        refine y_lsub C [2, 3, 1, 0] (lv' := [(0, .ref h), (1, .int (zI kind)), (2, .int (zI (n + 1))), (3, .int (zI (c + 1)))]) rfl ?_
        exact ih4 (n + 1) (c + 1) (by omega) (by refine ⟨?_, by omega, by omega⟩; first | (rw [zcnt_t (by omega) (show kindP per p d mm sn bd kind c from by rcases hk with q | q; exact q.2; omega)]; omega) | (rw [zcnt_f (by omega) (show ¬ kindP per p d mm sn bd kind c from by rcases hk with q | q; omega; exact q.2)]; omega)) (by omega)

set_option maxHeartbeats 4000000 in
set_option maxRecDepth 100000 in
theorem m_X1_placesOfChain {l : Launch} {D : va_G} {cA cB : ClassId} {h a0 a1 a2 a3 a4 a5 : Nat} {per win cr : Int} {ch : Int → Int} {q : Int} (hq : zR q) (hch : ∀ k : Int, 0 ≤ k → k < 32 → 0 ≤ ch k ∧ ch k ≤ 31) : MI l yX1_placesOfChain cX1_placesOfChain 4 .int { frames := 0, cells := 0, slots := 0, locals := 0 } D (zT cA cB) [.ref h, .int (zI q)] [cO h 1 [.ref a0, .ref a1, .ref a2, .ref a3, .ref a4, .ref a5, .int (zI per), .int (zI win), .int (zI cr)], cI cA a5 32 ch] (fun r w => w = [cO h 1 [.ref a0, .ref a1, .ref a2, .ref a3, .ref a4, .ref a5, .int (zI per), .int (zI win), .int (zI cr)], cI cA a5 32 ch] ∧ r = zcnt (fun k => ch k = q) 32 ∧ 0 ≤ r ∧ r ≤ 32) := by
  refine MI.of RX1 ⟨rfl, by decide +kernel⟩ (Or.inl rfl) (Nat.le_of_ble_eq_true rfl) (fun h => by cases h) ?_
  intro K C hret
  change K 0 0 _ [(0, .ref h), (1, .int (zI q))] 0 []
  have hq1 := hq.1
  have hq2 := hq.2
  refine y_iconst C dX1_placesOfChain_0 ?_
  refine y_istore_n C [(2, .int (zI 0)), (0, .ref h), (1, .int (zI q))] dX1_placesOfChain_1 (by decide) rfl ?_
  refine y_iconst C dX1_placesOfChain_2 ?_
  refine y_istore_n C [(3, .int (zI 0)), (2, .int (zI 0)), (0, .ref h), (1, .int (zI q))] dX1_placesOfChain_3 (by decide) rfl ?_
  refine y_lsub C [2, 3, 1, 0] (lv' := [(0, .ref h), (1, .int (zI q)), (2, .int (zI 0)), (3, .int (zI 0))]) rfl ?_
  suffices hL4 : ∀ (fu : Nat) (n : Int) (c : Int), (0 ≤ c ∧ c ≤ 32) → (n = zcnt (fun k => ch k = q) c ∧ 0 ≤ n ∧ n ≤ c) → (32 - c).toNat < fu → K 0 0 [cO h 1 [.ref a0, .ref a1, .ref a2, .ref a3, .ref a4, .ref a5, .int (zI per), .int (zI win), .int (zI cr)], cI cA a5 32 ch] [(0, .ref h), (1, .int (zI q)), (2, .int (zI n)), (3, .int (zI c))] 4 [] from hL4 _ 0 0 (by omega) (by exact ⟨(zcnt_0 _).symm, by omega, by omega⟩) (Nat.lt_succ_self _)
  intro f4
  induction f4 with
  | zero => exact fun _ _ _ _ hf => absurd hf (Nat.not_lt_zero _)
  | succ f4 ih4 =>
    intro n c hc hn hf4
    refine y_iload_n C 3 dX1_placesOfChain_4 rfl ?_
    refine y_bipush C dX1_placesOfChain_5 (by decide +kernel) ?_
    refine y_icmp_ge C 29 dX1_placesOfChain_7 (by decide) ⟨⟨by omega, by omega⟩, ⟨by omega, by omega⟩⟩ (fun c_1 => ?_) (fun c_1 => ?_)
    · refine y_iload_n C 2 dX1_placesOfChain_29 rfl ?_
      refine hret _ _ _ _ dX1_placesOfChain_30 ⟨rfl, ?_⟩
      show n = zcnt (fun k => ch k = q) 32 ∧ 0 ≤ n ∧ n ≤ 32
      rw [show (32 : Int) = c by omega]; omega
    · refine y_aload_n C 0 dX1_placesOfChain_10 rfl ?_
      refine y_get C fg_X1_27 0 dX1_placesOfChain_11 rfl rfl ?_
      refine y_iload_n C 3 dX1_placesOfChain_14 rfl ?_
      refine y_iald C 1 0 dX1_placesOfChain_15 rfl rfl ⟨by omega, by omega, by omega⟩ ?_
      have g_2 := hch c (by omega) (by omega)
      refine y_iload_n C 1 dX1_placesOfChain_16 rfl ?_
      refine y_icmp_ne C 23 dX1_placesOfChain_17 (by decide) ⟨⟨by omega, by omega⟩, ⟨by omega, by omega⟩⟩ (fun c_3 => ?_) (fun c_3 => ?_)
      · refine y_iinc C 3 [(3, .int (zI (c + 1))), (0, .ref h), (1, .int (zI q)), (2, .int (zI n))] dX1_placesOfChain_23 rfl (by decide) rfl ?_
        refine y_goto C 4 dX1_placesOfChain_26 (by decide) ?_
        refine y_lsub C [1, 2, 3, 0] (lv' := [(0, .ref h), (1, .int (zI q)), (2, .int (zI n)), (3, .int (zI (c + 1)))]) rfl ?_
        exact ih4 n (c + 1) (by omega) (by refine ⟨?_, by omega, by omega⟩; exact zcnt_step (by omega) hn.1 (by omega)) (by omega)
      · refine y_iinc C 2 [(2, .int (zI (n + 1))), (0, .ref h), (1, .int (zI q)), (3, .int (zI c))] dX1_placesOfChain_20 rfl (by decide) rfl ?_
        refine y_iinc C 3 [(3, .int (zI (c + 1))), (2, .int (zI (n + 1))), (0, .ref h), (1, .int (zI q))] dX1_placesOfChain_23 rfl (by decide) rfl ?_
        refine y_goto C 4 dX1_placesOfChain_26 (by decide) ?_
        refine y_lsub C [2, 3, 1, 0] (lv' := [(0, .ref h), (1, .int (zI q)), (2, .int (zI (n + 1))), (3, .int (zI (c + 1)))]) rfl ?_
        exact ih4 (n + 1) (c + 1) (by omega) (by refine ⟨?_, by omega, by omega⟩; exact zcnt_step (by omega) hn.1 (by omega)) (by omega)
