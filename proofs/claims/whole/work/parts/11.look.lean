set_option maxHeartbeats 4000000 in
set_option maxRecDepth 100000 in
theorem m_X1_boundTo {l : Launch} {D : va_G} {cA cB : ClassId} {h a0 a1 a2 a3 a4 a5 : Nat} {per win cr : Int} {p : Int → Int} {c : Int} (hc : 0 ≤ c ∧ c < 32) (hper : 6 ≤ per ∧ per ≤ 16) (hp : ∀ k : Int, 0 ≤ k → k < 32 → 0 ≤ p k ∧ p k ≤ 4) : MI l yX1_boundTo cX1_boundTo 3 .int { frames := 0, cells := 0, slots := 0, locals := 0 } D (zT cA cB) [.ref h, .int (zI c)] [cO h 1 [.ref a0, .ref a1, .ref a2, .ref a3, .ref a4, .ref a5, .int (zI per), .int (zI win), .int (zI cr)], cI cA a0 32 p] (fun r w => w = [cO h 1 [.ref a0, .ref a1, .ref a2, .ref a3, .ref a4, .ref a5, .int (zI per), .int (zI win), .int (zI cr)], cI cA a0 32 p] ∧ r = zb per p c ∧ ((0 ≤ r ∧ r < c ∧ r = c - (per - p c)) ∨ (r = -4 ∧ c - (per - p c) < 0))) := by
  refine MI.of RX1 ⟨rfl, by decide +kernel⟩ (Or.inl rfl) (Nat.le_of_ble_eq_true rfl) (fun h => by cases h) ?_
  intro K C hret
  change K 0 0 _ [(0, .ref h), (1, .int (zI c))] 0 []
  refine y_iload_n C 1 dX1_boundTo_0 rfl ?_
  refine y_aload_n C 0 dX1_boundTo_1 rfl ?_
  refine y_get C fg_X1_48 0 dX1_boundTo_2 rfl rfl ?_
  refine y_aload_n C 0 dX1_boundTo_5 rfl ?_
  refine y_get C fg_X1_9 0 dX1_boundTo_6 rfl rfl ?_
  refine y_iload_n C 1 dX1_boundTo_9 rfl ?_
  refine y_iald C 1 0 dX1_boundTo_10 rfl rfl ⟨by omega, by omega, by decide⟩ ?_
  have g_1 := hp c (by omega) (by omega)
  refine y_isub C dX1_boundTo_11 ?_
  refine y_isub C dX1_boundTo_12 ?_
  refine y_istore_n C [(2, .int (zI (c - (per - (p c))))), (0, .ref h), (1, .int (zI c))] dX1_boundTo_13 (by decide) rfl ?_
  refine y_iload_n C 0 dX1_boundTo_14 rfl ?_
  refine y_if_lt C 27 dX1_boundTo_15 (by decide) ⟨by omega, by omega⟩ (fun c_2 => ?_) (fun c_2 => ?_)
  · refine y_bipush C dX1_boundTo_27 (by decide +kernel) ?_
    refine hret _ _ _ _ dX1_boundTo_29 ⟨rfl, ?_⟩
    show (-4) = zb per p c ∧ ((0 ≤ (-4) ∧ (-4) < c ∧ (-4) = c - (per - p c)) ∨ ((-4) = -4 ∧ c - (per - p c) < 0))
    first | exact ⟨(zb_b (by omega)).symm, by omega⟩ | exact ⟨(zb_f (by omega)).symm, by omega⟩
  · refine y_iload_n C 0 dX1_boundTo_18 rfl ?_
    refine y_iload_n C 2 dX1_boundTo_19 rfl ?_
    refine y_icmp_ge C 27 dX1_boundTo_20 (by decide) ⟨⟨by omega, by omega⟩, ⟨by omega, by omega⟩⟩ (fun c_3 => ?_) (fun c_3 => ?_)
    · refine y_bipush C dX1_boundTo_27 (by decide +kernel) ?_
      refine hret _ _ _ _ dX1_boundTo_29 ⟨rfl, ?_⟩
      show (-4) = zb per p c ∧ ((0 ≤ (-4) ∧ (-4) < c ∧ (-4) = c - (per - p c)) ∨ ((-4) = -4 ∧ c - (per - p c) < 0))
      first | exact ⟨(zb_b (by omega)).symm, by omega⟩ | exact ⟨(zb_f (by omega)).symm, by omega⟩
    · refine y_iload_n C 0 dX1_boundTo_23 rfl ?_
      refine y_goto C 29 dX1_boundTo_24 (by decide) ?_
      refine hret _ _ _ _ dX1_boundTo_29 ⟨rfl, ?_⟩
      show (c - (per - (p c))) = zb per p c ∧ ((0 ≤ (c - (per - (p c))) ∧ (c - (per - (p c))) < c ∧ (c - (per - (p c))) = c - (per - p c)) ∨ ((c - (per - (p c))) = -4 ∧ c - (per - p c) < 0))
      first | exact ⟨(zb_b (by omega)).symm, by omega⟩ | exact ⟨(zb_f (by omega)).symm, by omega⟩

set_option maxHeartbeats 4000000 in
set_option maxRecDepth 100000 in
theorem m_X1_isFitting {l : Launch} {D : va_G} {cA cB : ClassId} {h a0 a1 a2 a3 a4 a5 : Nat} {per win cr : Int} {d : Int → Int} {c q : Int} (hc : 0 ≤ c ∧ c < 32) (hq : 0 ≤ q ∧ q ≤ 4) (hper : 6 ≤ per ∧ per ≤ 16) (hwin : 0 ≤ win ∧ win ≤ 3) (hd : ∀ k : Int, 0 ≤ k → k < 32 → 0 ≤ d k ∧ d k ≤ 7) : MI l yX1_isFitting cX1_isFitting 7 .boolean { frames := 1, cells := 0, slots := 0, locals := 17 } D (zT cA cB) [.ref h, .int (zI c), .int (zI q)] [cO h 1 [.ref a0, .ref a1, .ref a2, .ref a3, .ref a4, .ref a5, .int (zI per), .int (zI win), .int (zI cr)], cI cA a1 32 d] (fun r w => w = [cO h 1 [.ref a0, .ref a1, .ref a2, .ref a3, .ref a4, .ref a5, .int (zI per), .int (zI win), .int (zI cr)], cI cA a1 32 d] ∧ ((r = 1 ∧ (fitP per win d c q)) ∨ (r = 0 ∧ ¬ (fitP per win d c q)))) := by
  refine MI.of RX1 ⟨rfl, by decide +kernel⟩ (Or.inr rfl) (Nat.le_of_ble_eq_true rfl) (fun _ r w h => by rcases h.2 with h | h; exact Or.inr h.1; exact Or.inl h.1) ?_
  intro K C hret
  change K 0 0 _ [(0, .ref h), (1, .int (zI c)), (2, .int (zI q))] 0 []
  refine y_aload_n C 0 dX1_isFitting_0 rfl ?_
  refine y_get C fg_X1_48 0 dX1_isFitting_1 rfl rfl ?_
  refine y_iload_n C 2 dX1_isFitting_4 rfl ?_
  refine y_isub C dX1_isFitting_5 ?_
  refine y_istore_n C [(3, .int (zI (per - q))), (0, .ref h), (1, .int (zI c)), (2, .int (zI q))] dX1_isFitting_6 (by decide) rfl ?_
  refine y_iload_n C 0 dX1_isFitting_7 rfl ?_
  refine y_if_lt C 16 dX1_isFitting_8 (by decide) ⟨by omega, by omega⟩ (fun c_1 => ?_) (fun c_1 => ?_)
  · refine y_iconst C dX1_isFitting_16 ?_
    refine hret _ _ _ _ dX1_isFitting_17 ⟨rfl, ?_⟩
    show ((0 = 1 ∧ (fitP per win d c q)) ∨ (0 = 0 ∧ ¬ (fitP per win d c q)))
    exact Or.inr ⟨rfl, fun h => by have := h.1; omega⟩
  · refine y_iload_n C 2 dX1_isFitting_11 rfl ?_
    refine y_iload_n C 0 dX1_isFitting_12 rfl ?_
    refine y_icmp_ge C 18 dX1_isFitting_13 (by decide) ⟨⟨by omega, by omega⟩, ⟨by omega, by omega⟩⟩ (fun c_2 => ?_) (fun c_2 => ?_)
    · refine y_iload_n C 2 dX1_isFitting_18 rfl ?_
      refine y_aload_n C 1 dX1_isFitting_19 rfl ?_
      refine y_get C fg_X1_52 0 dX1_isFitting_20 rfl rfl ?_
      refine y_isub C dX1_isFitting_23 ?_
      refine y_iload_n C 0 dX1_isFitting_24 rfl ?_
      refine y_max C lk_X1_99 dX1_isFitting_25 ⟨⟨by omega, by omega⟩, ⟨by omega, by omega⟩⟩ ⟨by decide, by decide, by decide, by decide⟩ (fun z_4 m_3 => ?_)
      refine y_istore C [(4, .int (zI z_4)), (3, .int (zI (per - q))), (0, .ref h), (1, .int (zI c)), (2, .int (zI q))] dX1_isFitting_28 (by decide) rfl ?_
      refine y_iload_n C 3 dX1_isFitting_30 rfl ?_
      refine y_aload_n C 2 dX1_isFitting_31 rfl ?_
      refine y_get C fg_X1_52 0 dX1_isFitting_32 rfl rfl ?_
      refine y_iadd C dX1_isFitting_35 ?_
      refine y_bipush C dX1_isFitting_36 (by decide +kernel) ?_
      refine y_min C lk_X1_104 dX1_isFitting_38 ⟨⟨by omega, by omega⟩, ⟨by omega, by omega⟩⟩ ⟨by decide, by decide, by decide, by decide⟩ (fun z_6 m_5 => ?_)
      refine y_istore C [(5, .int (zI z_6)), (4, .int (zI z_4)), (3, .int (zI (per - q))), (0, .ref h), (1, .int (zI c)), (2, .int (zI q))] dX1_isFitting_41 (by decide) rfl ?_
      refine y_iload C 1 dX1_isFitting_43 rfl ?_
      refine y_istore C [(6, .int (zI z_4)), (5, .int (zI z_6)), (4, .int (zI z_4)), (3, .int (zI (per - q))), (0, .ref h), (1, .int (zI c)), (2, .int (zI q))] dX1_isFitting_45 (by decide) rfl ?_
      refine y_lsub C [4, 5, 6, 3, 2, 1, 0] (lv' := [(0, .ref h), (1, .int (zI c)), (2, .int (zI q)), (3, .int (zI (per - q))), (4, .int (zI z_4)), (5, .int (zI z_6)), (6, .int (zI z_4))]) rfl ?_
      suffices hL47 : ∀ (f : Nat) (k : Int), (z_4 ≤ k ∧ k ≤ 33) → (∀ j : Int, z_4 ≤ j → j < k → d j = d (j - (per - q))) → (40 - k).toNat < f → K 0 0 [cO h 1 [.ref a0, .ref a1, .ref a2, .ref a3, .ref a4, .ref a5, .int (zI per), .int (zI win), .int (zI cr)], cI cA a1 32 d] [(0, .ref h), (1, .int (zI c)), (2, .int (zI q)), (3, .int (zI (per - q))), (4, .int (zI z_4)), (5, .int (zI z_6)), (6, .int (zI k))] 47 [] from hL47 _ z_4 (by omega) (by intro j h1 h2; omega) (Nat.lt_succ_self _)
      intro f47
      induction f47 with
      | zero => exact fun _ _ _ hf => absurd hf (Nat.not_lt_zero _)
      | succ f47 ih47 =>
        intro k hk hall hf47
        refine y_iload C 6 dX1_isFitting_47 rfl ?_
        refine y_iload C 5 dX1_isFitting_49 rfl ?_
        refine y_icmp_gt C 81 dX1_isFitting_51 (by decide) ⟨⟨by omega, by omega⟩, ⟨by omega, by omega⟩⟩ (fun c_7 => ?_) (fun c_7 => ?_)
        · refine y_iconst C dX1_isFitting_81 ?_
          refine hret _ _ _ _ dX1_isFitting_82 ⟨rfl, ?_⟩
          show ((1 = 1 ∧ (fitP per win d c q)) ∨ (1 = 0 ∧ ¬ (fitP per win d c q)))
          exact Or.inl ⟨rfl, by omega, fun j h1 h2 h3 h4 => hall j (by omega) (by omega)⟩
        · refine y_aload_n C 0 dX1_isFitting_54 rfl ?_
          refine y_get C fg_X1_15 0 dX1_isFitting_55 rfl rfl ?_
          refine y_iload C 6 dX1_isFitting_58 rfl ?_
          refine y_iald C 1 0 dX1_isFitting_60 rfl rfl ⟨by omega, by omega, by decide⟩ ?_
          have g_8 := hd k (by omega) (by omega)
          refine y_aload_n C 0 dX1_isFitting_61 rfl ?_
          refine y_get C fg_X1_15 0 dX1_isFitting_62 rfl rfl ?_
          refine y_iload C 6 dX1_isFitting_65 rfl ?_
          refine y_iload_n C 3 dX1_isFitting_67 rfl ?_
          refine y_isub C dX1_isFitting_68 ?_
          refine y_iald C 1 0 dX1_isFitting_69 rfl rfl ⟨by omega, by omega, by decide⟩ ?_
          have g_9 := hd (k - (per - q)) (by omega) (by omega)
          refine y_icmp_eq C 75 dX1_isFitting_70 (by decide) ⟨⟨by omega, by omega⟩, ⟨by omega, by omega⟩⟩ (fun c_10 => ?_) (fun c_10 => ?_)
          · refine y_iinc C 6 [(6, .int (zI (k + 1))), (0, .ref h), (1, .int (zI c)), (2, .int (zI q)), (3, .int (zI (per - q))), (4, .int (zI z_4)), (5, .int (zI z_6))] dX1_isFitting_75 rfl (by decide) rfl ?_
            refine y_goto C 47 dX1_isFitting_78 (by decide) ?_
            refine y_lsub C [1, 2, 3, 4, 5, 6, 0] (lv' := [(0, .ref h), (1, .int (zI c)), (2, .int (zI q)), (3, .int (zI (per - q))), (4, .int (zI z_4)), (5, .int (zI z_6)), (6, .int (zI (k + 1)))]) rfl ?_
            exact ih47 (k + 1) (by omega) (by intro j h1 h2; exact (show j < k ∨ j = k from by omega).elim (fun h3 => hall j h1 h3) (fun h3 => by rw [h3]; assumption)) (by omega)
          · refine y_iconst C dX1_isFitting_73 ?_
            refine hret _ _ _ _ dX1_isFitting_74 ⟨rfl, ?_⟩
            show ((0 = 1 ∧ (fitP per win d c q)) ∨ (0 = 0 ∧ ¬ (fitP per win d c q)))
            exact Or.inr ⟨rfl, fun h => absurd (h.2 k (by omega) (by omega) (by omega) (by omega)) (by assumption)⟩
    · refine y_iconst C dX1_isFitting_16 ?_
      refine hret _ _ _ _ dX1_isFitting_17 ⟨rfl, ?_⟩
      show ((0 = 1 ∧ (fitP per win d c q)) ∨ (0 = 0 ∧ ¬ (fitP per win d c q)))
      exact Or.inr ⟨rfl, fun h => by have := h.1; omega⟩
