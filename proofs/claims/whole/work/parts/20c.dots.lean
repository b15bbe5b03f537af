set_option maxHeartbeats 4000000 in
set_option maxRecDepth 100000 in
theorem m_X1_differentDots {l : Launch} {D : va_G} {cA cB : ClassId} {h a0 a1 a2 a3 a4 a5 : Nat} {per win cr : Int} {d : Int → Int} (hd : ∀ k : Int, 0 ≤ k → k < 32 → 0 ≤ d k ∧ d k ≤ 7) : MI l yX1_differentDots cX1_differentDots 3 .int { frames := 1, cells := 0, slots := 0, locals := 20 } D (zT cA cB) [.ref h] [cO h 1 [.ref a0, .ref a1, .ref a2, .ref a3, .ref a4, .ref a5, .int (zI per), .int (zI win), .int (zI cr)], cI cA a1 32 d] (fun r w => w = [cO h 1 [.ref a0, .ref a1, .ref a2, .ref a3, .ref a4, .ref a5, .int (zI per), .int (zI win), .int (zI cr)], cI cA a1 32 d] ∧ r = dotsD d ∧ 0 ≤ r ∧ r ≤ 8) := by
  refine MI.of RX1 ⟨rfl, by decide +kernel⟩ (Or.inl rfl) (Nat.le_of_ble_eq_true rfl) (fun h => by cases h) ?_
  intro K C hret
  change K 0 0 _ [(0, .ref h)] 0 []
  refine y_iconst C dX1_differentDots_0 ?_
  refine y_istore_n C [(1, .int (zI 0)), (0, .ref h)] dX1_differentDots_1 (by decide) rfl ?_
  refine y_iconst C dX1_differentDots_2 ?_
  refine y_istore_n C [(2, .int (zI 0)), (1, .int (zI 0)), (0, .ref h)] dX1_differentDots_3 (by decide) rfl ?_
  refine y_lsub C [2, 1, 0] (lv' := [(0, .ref h), (1, .int (zI 0)), (2, .int (zI 0))]) rfl ?_
  suffices hL4 : ∀ (fu : Nat) (m : Int) (c : Int), (0 ≤ c ∧ c ≤ 32) → (∃ a : Nat, m = (a : Int) ∧ a < 256 ∧ ∀ v : Nat, v < 8 → (a / 2 ^ v % 2 = 1 ↔ ∃ k : Int, 0 ≤ k ∧ k < c ∧ d k = (v : Int))) → (32 - c).toNat < fu → K 0 0 [cO h 1 [.ref a0, .ref a1, .ref a2, .ref a3, .ref a4, .ref a5, .int (zI per), .int (zI win), .int (zI cr)], cI cA a1 32 d] [(0, .ref h), (1, .int (zI m)), (2, .int (zI c))] 4 [] from hL4 _ 0 0 (by omega) (by exact ⟨0, rfl, by omega, fun v hv => ⟨fun q => by simp at q, fun ⟨k, q1, q2, q3⟩ => by omega⟩⟩) (Nat.lt_succ_self _)
  intro f4
  induction f4 with
  | zero => exact fun _ _ _ _ hf => absurd hf (Nat.not_lt_zero _)
  | succ f4 ih4 =>
    intro m c hc hm hf4
    refine y_iload_n C 2 dX1_differentDots_4 rfl ?_
    refine y_bipush C dX1_differentDots_5 (by decide +kernel) ?_
    refine y_icmp_ge C 27 dX1_differentDots_7 (by decide) ⟨⟨by omega, by omega⟩, ⟨by omega, by omega⟩⟩ (fun c_1 => ?_) (fun c_1 => ?_)
    · obtain ⟨a, ha0, ha, ha1⟩ := hm
      refine y_iload_n C 1 dX1_differentDots_27 rfl ?_
      rw [ha0]
      refine y_pcalls C (m_J6_bitCount_0f7a4 (l := l) (D := D) (cA := cA) (cB := cB) (n := a) ha) lk_X1_117 [] [0, 1] [0, 1] ⟨rfl, rfl, by decide, by decide, by decide⟩ ⟨rfl, by decide⟩ dX1_differentDots_28 rfl rfl ⟨by exact Nat.le_of_ble_eq_true rfl, by exact Nat.le_of_ble_eq_true rfl, rfl, rfl, by exact Nat.le_of_ble_eq_true rfl, by exact Nat.le_of_ble_eq_true rfl, by exact Nat.le_of_ble_eq_true rfl⟩ (fun r h => ?_)
      refine hret _ _ _ _ dX1_differentDots_31 ⟨rfl, ?_⟩
      show r = dotsD d ∧ 0 ≤ r ∧ r ≤ 8
      obtain rfl : c = 32 := by omega
      have h1 : r = dotsD d := h.trans (popN_cnt ha1)
      have h2 := zcnt_r (fun v => ∃ k : Int, 0 ≤ k ∧ k < 32 ∧ d k = v) (show (0 : Int) ≤ 8 from by omega)
      exact ⟨h1, by rw [h1]; exact h2.1, by rw [h1]; exact h2.2⟩
    · obtain ⟨a, ha0, ha, ha1⟩ := hm
      refine y_iload_n C 1 dX1_differentDots_10 rfl ?_
      refine y_iconst C dX1_differentDots_11 ?_
      refine y_aload_n C 0 dX1_differentDots_12 rfl ?_
      refine y_get C fg_X1_15 0 dX1_differentDots_13 rfl rfl ?_
      refine y_iload_n C 2 dX1_differentDots_16 rfl ?_
      refine y_iald C 1 0 dX1_differentDots_17 rfl rfl ⟨by omega, by omega, by omega⟩ ?_
      have g_2 := hd c (by omega) (by omega)
      obtain ⟨b, hb⟩ : ∃ b : Nat, d c = (b : Int) := ⟨(d c).toNat, by omega⟩
      have hob := orb a ha b (by omega)
      refine y_ishl C dX1_differentDots_18 ?_
      refine y_ior C dX1_differentDots_19 ?_
      refine y_val (w := .int (zI (((a ||| 2 ^ b : Nat)) : Int))) (by rw [ha0, hb, zI_nat, zI_nat, zI_nat, show zI 1 = 1 from by decide +kernel]; exact congrArg Value.int hob.1) ?_
      refine y_istore_n C [(1, .int (zI (((a ||| 2 ^ b : Nat)) : Int))), (0, .ref h), (2, .int (zI c))] dX1_differentDots_20 (by decide) rfl ?_
      refine y_iinc C 2 [(2, .int (zI (c + 1))), (1, .int (zI (((a ||| 2 ^ b : Nat)) : Int))), (0, .ref h)] dX1_differentDots_21 rfl (by decide) rfl ?_
      refine y_goto C 4 dX1_differentDots_24 (by decide) ?_
      refine y_lsub C [2, 1, 0] (lv' := [(0, .ref h), (1, .int (zI (((a ||| 2 ^ b : Nat)) : Int))), (2, .int (zI (c + 1)))]) rfl ?_
      exact ih4 (((a ||| 2 ^ b : Nat)) : Int) (c + 1) (by omega) (by exact ⟨a ||| 2 ^ b, rfl, hob.2.1, fun v hv => by rw [hob.2.2 v hv, ha1 v hv]; exact ⟨fun q => by rcases q with q | ⟨k, q1, q2, q3⟩; exact ⟨c, by omega, by omega, by omega⟩; exact ⟨k, q1, by omega, q3⟩, fun ⟨k, q1, q2, q3⟩ => by rcases (show k < c ∨ k = c from by omega) with e | e; exact Or.inr ⟨k, q1, e, q3⟩; exact Or.inl (by rw [e, hb] at q3; omega)⟩⟩) (by omega)
