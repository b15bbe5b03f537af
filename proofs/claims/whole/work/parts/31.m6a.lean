set_option maxHeartbeats 4000000 in
set_option maxRecDepth 100000 in
theorem m_X6_in {l : Launch} {D : va_G} {cA cB : ClassId} {vv lo hi : Int} (hzvv : zR vv) (hzlo : zR lo) (hzhi : zR hi) : MI l yX6_in cX6_in 3 .boolean { frames := 0, cells := 0, slots := 0, locals := 0 } D (zT cA cB) [.int (zI vv), .int (zI lo), .int (zI hi)] [] (fun r w => w = [] ∧ ((r = 1 ∧ (lo ≤ vv ∧ vv ≤ hi)) ∨ (r = 0 ∧ ¬ (lo ≤ vv ∧ vv ≤ hi)))) := by
  refine MI.of RX6 ⟨rfl, by decide +kernel⟩ (Or.inr rfl) (Nat.le_of_ble_eq_true rfl) (fun _ r w h => by rcases h.2 with h | h; exact Or.inr h.1; exact Or.inl h.1) ?_
  intro K C hret
  change K 0 0 _ [(0, .int (zI vv)), (1, .int (zI lo)), (2, .int (zI hi))] 0 []
  have hzvv1 := hzvv.1
  have hzvv2 := hzvv.2
  have hzlo1 := hzlo.1
  have hzlo2 := hzlo.2
  have hzhi1 := hzhi.1
  have hzhi2 := hzhi.2
  refine y_iload_n C 0 dX6_in_0 rfl ?_
  refine y_iload_n C 1 dX6_in_1 rfl ?_
  refine y_icmp_lt C 14 dX6_in_2 (by decide) ⟨⟨by omega, by omega⟩, ⟨by omega, by omega⟩⟩ (fun c_1 => ?_) (fun c_1 => ?_)
  · refine y_iconst C dX6_in_14 ?_
    refine hret _ _ _ _ dX6_in_15 ⟨rfl, ?_⟩
    show ((0 = 1 ∧ (lo ≤ vv ∧ vv ≤ hi)) ∨ (0 = 0 ∧ ¬ (lo ≤ vv ∧ vv ≤ hi)))
    omega
  · refine y_iload_n C 0 dX6_in_5 rfl ?_
    refine y_iload_n C 2 dX6_in_6 rfl ?_
    refine y_icmp_gt C 14 dX6_in_7 (by decide) ⟨⟨by omega, by omega⟩, ⟨by omega, by omega⟩⟩ (fun c_2 => ?_) (fun c_2 => ?_)
    · refine y_iconst C dX6_in_14 ?_
      refine hret _ _ _ _ dX6_in_15 ⟨rfl, ?_⟩
      show ((0 = 1 ∧ (lo ≤ vv ∧ vv ≤ hi)) ∨ (0 = 0 ∧ ¬ (lo ≤ vv ∧ vv ≤ hi)))
      omega
    · refine y_iconst C dX6_in_10 ?_
      refine y_goto C 15 dX6_in_11 (by decide) ?_
      refine hret _ _ _ _ dX6_in_15 ⟨rfl, ?_⟩
      show ((1 = 1 ∧ (lo ≤ vv ∧ vv ≤ hi)) ∨ (1 = 0 ∧ ¬ (lo ≤ vv ∧ vv ≤ hi)))
      omega

set_option maxHeartbeats 4000000 in
set_option maxRecDepth 100000 in
theorem m_X6_greater {l : Launch} {D : va_G} {cA cB : ClassId} {aa bb : Int} (hzaa : zR aa) (hzbb : zR bb) : MI l yX6_greater cX6_greater 2 .int { frames := 0, cells := 0, slots := 0, locals := 0 } D (zT cA cB) [.int (zI aa), .int (zI bb)] [] (fun r w => w = [] ∧ r = max aa bb) := by
  refine MI.of RX6 ⟨rfl, by decide +kernel⟩ (Or.inl rfl) (Nat.le_of_ble_eq_true rfl) (fun h => by cases h) ?_
  intro K C hret
  change K 0 0 _ [(0, .int (zI aa)), (1, .int (zI bb))] 0 []
  have hzaa1 := hzaa.1
  have hzaa2 := hzaa.2
  have hzbb1 := hzbb.1
  have hzbb2 := hzbb.2
  refine y_iload_n C 0 dX6_greater_0 rfl ?_
  refine y_iload_n C 1 dX6_greater_1 rfl ?_
  refine y_icmp_le C 9 dX6_greater_2 (by decide) ⟨⟨by omega, by omega⟩, ⟨by omega, by omega⟩⟩ (fun c_1 => ?_) (fun c_1 => ?_)
  · refine y_iload_n C 1 dX6_greater_9 rfl ?_
    refine hret _ _ _ _ dX6_greater_10 ⟨rfl, ?_⟩
    show bb = max aa bb
    omega
  · refine y_iload_n C 0 dX6_greater_5 rfl ?_
    refine y_goto C 10 dX6_greater_6 (by decide) ?_
    refine hret _ _ _ _ dX6_greater_10 ⟨rfl, ?_⟩
    show aa = max aa bb
    omega

set_option maxHeartbeats 4000000 in
set_option maxRecDepth 100000 in
theorem m_X6_isRow {l : Launch} {D : va_G} {cA cB : ClassId} {xx : Int} (hx : zR xx) : MI l yX6_isRow cX6_isRow 1 .boolean { frames := 1, cells := 0, slots := 0, locals := 22 } D (zT cA cB) [.int (zI xx)] [] (fun r w => w = [] ∧ ((r = 1 ∧ (0 ≤ xx ∧ xx < 8)) ∨ (r = 0 ∧ ¬ (0 ≤ xx ∧ xx < 8)))) := by
  refine MI.of RX6 ⟨rfl, by decide +kernel⟩ (Or.inr rfl) (Nat.le_of_ble_eq_true rfl) (fun _ r w h => by rcases h.2 with h | h; exact Or.inr h.1; exact Or.inl h.1) ?_
  intro K C hret
  change K 0 0 _ [(0, .int (zI xx))] 0 []
  refine y_iload_n C 0 dX6_isRow_0 rfl ?_
  refine y_iconst C dX6_isRow_1 ?_
  refine y_bipush C dX6_isRow_2 (by decide +kernel) ?_
  refine y_pcalls C (m_X6_in (l := l) (D := D) (cA := cA) (cB := cB) (vv := xx) (lo := 0) (hi := 7) (by first | assumption | exact ⟨by omega, by omega⟩) (by first | assumption | exact ⟨by omega, by omega⟩) (by first | assumption | exact ⟨by omega, by omega⟩)) lk_X6_31 [] [] [] ⟨rfl, rfl, by decide, by decide, by decide⟩ ⟨rfl, by decide⟩ dX6_isRow_4 rfl rfl ⟨by exact Nat.le_of_ble_eq_true rfl, by exact Nat.le_of_ble_eq_true rfl, rfl, rfl, by exact Nat.le_of_ble_eq_true rfl, by exact Nat.le_of_ble_eq_true rfl, by exact Nat.le_of_ble_eq_true rfl⟩ (fun r_2 h_1 => ?_)
  have hk := h_1
  refine hret _ _ _ _ dX6_isRow_7 ⟨rfl, ?_⟩
  show ((r_2 = 1 ∧ (0 ≤ xx ∧ xx < 8)) ∨ (r_2 = 0 ∧ ¬ (0 ≤ xx ∧ xx < 8)))
  omega

set_option maxHeartbeats 4000000 in
set_option maxRecDepth 100000 in
theorem m_X6_isColumn {l : Launch} {D : va_G} {cA cB : ClassId} {xx : Int} (hx : zR xx) : MI l yX6_isColumn cX6_isColumn 1 .boolean { frames := 1, cells := 0, slots := 0, locals := 22 } D (zT cA cB) [.int (zI xx)] [] (fun r w => w = [] ∧ ((r = 1 ∧ (0 ≤ xx ∧ xx < 32)) ∨ (r = 0 ∧ ¬ (0 ≤ xx ∧ xx < 32)))) := by
  refine MI.of RX6 ⟨rfl, by decide +kernel⟩ (Or.inr rfl) (Nat.le_of_ble_eq_true rfl) (fun _ r w h => by rcases h.2 with h | h; exact Or.inr h.1; exact Or.inl h.1) ?_
  intro K C hret
  change K 0 0 _ [(0, .int (zI xx))] 0 []
  refine y_iload_n C 0 dX6_isColumn_0 rfl ?_
  refine y_iconst C dX6_isColumn_1 ?_
  refine y_bipush C dX6_isColumn_2 (by decide +kernel) ?_
  refine y_pcalls C (m_X6_in (l := l) (D := D) (cA := cA) (cB := cB) (vv := xx) (lo := 0) (hi := 31) (by first | assumption | exact ⟨by omega, by omega⟩) (by first | assumption | exact ⟨by omega, by omega⟩) (by first | assumption | exact ⟨by omega, by omega⟩)) lk_X6_31 [] [] [] ⟨rfl, rfl, by decide, by decide, by decide⟩ ⟨rfl, by decide⟩ dX6_isColumn_4 rfl rfl ⟨by exact Nat.le_of_ble_eq_true rfl, by exact Nat.le_of_ble_eq_true rfl, rfl, rfl, by exact Nat.le_of_ble_eq_true rfl, by exact Nat.le_of_ble_eq_true rfl, by exact Nat.le_of_ble_eq_true rfl⟩ (fun r_2 h_1 => ?_)
  have hk := h_1
  refine hret _ _ _ _ dX6_isColumn_7 ⟨rfl, ?_⟩
  show ((r_2 = 1 ∧ (0 ≤ xx ∧ xx < 32)) ∨ (r_2 = 0 ∧ ¬ (0 ≤ xx ∧ xx < 32)))
  omega

set_option maxHeartbeats 4000000 in
set_option maxRecDepth 100000 in
theorem m_X6_place {l : Launch} {D : va_G} {cA cB : ClassId} {rr cc : Int}  : MI l yX6_place cX6_place 2 .int { frames := 0, cells := 0, slots := 0, locals := 0 } D (zT cA cB) [.int (zI rr), .int (zI cc)] [] (fun r w => w = [] ∧ r = rr * 32 + cc) := by
  refine MI.of RX6 ⟨rfl, by decide +kernel⟩ (Or.inl rfl) (Nat.le_of_ble_eq_true rfl) (fun h => by cases h) ?_
  intro K C hret
  change K 0 0 _ [(0, .int (zI rr)), (1, .int (zI cc))] 0 []
  refine y_bipush C dX6_place_0 (by decide +kernel) ?_
  refine y_iload_n C 0 dX6_place_2 rfl ?_
  refine y_imul C dX6_place_3 ?_
  refine y_iload_n C 1 dX6_place_4 rfl ?_
  refine y_iadd C dX6_place_5 ?_
  refine hret _ _ _ _ dX6_place_6 ⟨rfl, ?_⟩
  show ((32 * rr) + cc) = rr * 32 + cc
  omega

set_option maxHeartbeats 4000000 in
set_option maxRecDepth 100000 in
theorem m_X6_planeOf {l : Launch} {D : va_G} {cA cB : ClassId} {y ms ma mp mk md me mo : Nat} {np ik ml sp wr tp bt lf rg dp : Int} {u : Int → Int} {row c : Int} (hrow : 0 ≤ row ∧ row < 8) (hc : 0 ≤ c ∧ c < 32) (hU : UK u) : MI l yX6_planeOf cX6_planeOf 3 .int { frames := 1, cells := 0, slots := 0, locals := 21 } D (zT cA cB) [.ref y, .int (zI row), .int (zI c)] [cO y 6 [.ref ms, .ref ma, .ref mp, .int (zI np), .ref mk, .int (zI ik), .ref md, .int (zI ml), .ref me, .ref mo, .int (zI sp), .int (zI wr), .int (zI tp), .int (zI bt), .int (zI lf), .int (zI rg), .int (zI dp)], cI cA ms 800 u] (fun r w => w = [cO y 6 [.ref ms, .ref ma, .ref mp, .int (zI np), .ref mk, .int (zI ik), .ref md, .int (zI ml), .ref me, .ref mo, .int (zI sp), .int (zI wr), .int (zI tp), .int (zI bt), .int (zI lf), .int (zI rg), .int (zI dp)], cI cA ms 800 u] ∧ r = zp u row c ∧ 0 ≤ r ∧ r ≤ 4) := by
  refine MI.of RX6 ⟨rfl, by decide +kernel⟩ (Or.inl rfl) (Nat.le_of_ble_eq_true rfl) (fun h => by cases h) ?_
  intro K C hret
  change K 0 0 _ [(0, .ref y), (1, .int (zI row)), (2, .int (zI c))] 0 []
  refine y_aload_n C 0 dX6_planeOf_0 rfl ?_
  refine y_get C fg_X6_7 0 dX6_planeOf_1 rfl rfl ?_
  refine y_bipush C dX6_planeOf_4 (by decide +kernel) ?_
  refine y_iload_n C 1 dX6_planeOf_6 rfl ?_
  refine y_iload_n C 2 dX6_planeOf_7 rfl ?_
  refine y_pcalls C (m_X6_place (l := l) (D := D) (cA := cA) (cB := cB) (rr := row) (cc := c) ) lk_X6_35 [] [0, 1] [0, 1] ⟨rfl, rfl, by decide, by decide, by decide⟩ ⟨rfl, by decide⟩ dX6_planeOf_8 rfl rfl ⟨by exact Nat.le_of_ble_eq_true rfl, by exact Nat.le_of_ble_eq_true rfl, rfl, rfl, by exact Nat.le_of_ble_eq_true rfl, by exact Nat.le_of_ble_eq_true rfl, by exact Nat.le_of_ble_eq_true rfl⟩ (fun r_2 h_1 => ?_)
  refine y_iadd C dX6_planeOf_11 ?_
  refine y_top (show (32 + r_2) = (32 + (row * 32 + c)) from by omega) ?_
  refine y_iald C 1 0 dX6_planeOf_12 rfl rfl ⟨by omega, by omega, by omega⟩ ?_
  refine hret _ _ _ _ dX6_planeOf_13 ⟨rfl, ?_⟩
  show (u (32 + (row * 32 + c))) = zp u row c ∧ 0 ≤ (u (32 + (row * 32 + c))) ∧ (u (32 + (row * 32 + c))) ≤ 4
  exact ⟨rfl, hU.rp hrow hc.1 hc.2⟩

set_option maxHeartbeats 4000000 in
set_option maxRecDepth 100000 in
theorem m_X6_dotOf {l : Launch} {D : va_G} {cA cB : ClassId} {y ms ma mp mk md me mo : Nat} {np ik ml sp wr tp bt lf rg dp : Int} {u : Int → Int} {row c : Int} (hrow : 0 ≤ row ∧ row < 8) (hc : 0 ≤ c ∧ c < 32) (hU : UK u) : MI l yX6_dotOf cX6_dotOf 3 .int { frames := 1, cells := 0, slots := 0, locals := 21 } D (zT cA cB) [.ref y, .int (zI row), .int (zI c)] [cO y 6 [.ref ms, .ref ma, .ref mp, .int (zI np), .ref mk, .int (zI ik), .ref md, .int (zI ml), .ref me, .ref mo, .int (zI sp), .int (zI wr), .int (zI tp), .int (zI bt), .int (zI lf), .int (zI rg), .int (zI dp)], cI cA ms 800 u] (fun r w => w = [cO y 6 [.ref ms, .ref ma, .ref mp, .int (zI np), .ref mk, .int (zI ik), .ref md, .int (zI ml), .ref me, .ref mo, .int (zI sp), .int (zI wr), .int (zI tp), .int (zI bt), .int (zI lf), .int (zI rg), .int (zI dp)], cI cA ms 800 u] ∧ r = zd u row c ∧ 0 ≤ r ∧ r ≤ 7) := by
  refine MI.of RX6 ⟨rfl, by decide +kernel⟩ (Or.inl rfl) (Nat.le_of_ble_eq_true rfl) (fun h => by cases h) ?_
  intro K C hret
  change K 0 0 _ [(0, .ref y), (1, .int (zI row)), (2, .int (zI c))] 0 []
  refine y_aload_n C 0 dX6_dotOf_0 rfl ?_
  refine y_get C fg_X6_7 0 dX6_dotOf_1 rfl rfl ?_
  refine y_sipush C dX6_dotOf_4 (by decide +kernel) ?_
  refine y_iload_n C 1 dX6_dotOf_7 rfl ?_
  refine y_iload_n C 2 dX6_dotOf_8 rfl ?_
  refine y_pcalls C (m_X6_place (l := l) (D := D) (cA := cA) (cB := cB) (rr := row) (cc := c) ) lk_X6_35 [] [0, 1] [0, 1] ⟨rfl, rfl, by decide, by decide, by decide⟩ ⟨rfl, by decide⟩ dX6_dotOf_9 rfl rfl ⟨by exact Nat.le_of_ble_eq_true rfl, by exact Nat.le_of_ble_eq_true rfl, rfl, rfl, by exact Nat.le_of_ble_eq_true rfl, by exact Nat.le_of_ble_eq_true rfl, by exact Nat.le_of_ble_eq_true rfl⟩ (fun r_2 h_1 => ?_)
  refine y_iadd C dX6_dotOf_12 ?_
  refine y_top (show (288 + r_2) = (288 + (row * 32 + c)) from by omega) ?_
  refine y_iald C 1 0 dX6_dotOf_13 rfl rfl ⟨by omega, by omega, by omega⟩ ?_
  refine hret _ _ _ _ dX6_dotOf_14 ⟨rfl, ?_⟩
  show (u (288 + (row * 32 + c))) = zd u row c ∧ 0 ≤ (u (288 + (row * 32 + c))) ∧ (u (288 + (row * 32 + c))) ≤ 7
  exact ⟨rfl, hU.rd hrow hc.1 hc.2⟩

set_option maxHeartbeats 4000000 in
set_option maxRecDepth 100000 in
theorem m_X6_putAside {l : Launch} {D : va_G} {cA cB : ClassId} {y ms ma mp mk md me mo : Nat} {np ik ml sp wr tp bt lf rg dp : Int} {u av : Int → Int}  : MV l yX6_putAside cX6_putAside 2 { frames := 0, cells := 0, slots := 0, locals := 0 } D (zT cA cB) [.ref y] [cO y 6 [.ref ms, .ref ma, .ref mp, .int (zI np), .ref mk, .int (zI ik), .ref md, .int (zI ml), .ref me, .ref mo, .int (zI sp), .int (zI wr), .int (zI tp), .int (zI bt), .int (zI lf), .int (zI rg), .int (zI dp)], cI cA ms 800 u, cI cA ma 800 av] (fun w => ∃ (av2 : Int → Int), w = [cO y 6 [.ref ms, .ref ma, .ref mp, .int (zI np), .ref mk, .int (zI ik), .ref md, .int (zI ml), .ref me, .ref mo, .int (zI sp), .int (zI wr), .int (zI tp), .int (zI bt), .int (zI lf), .int (zI rg), .int (zI dp)], cI cA ms 800 u, cI cA ma 800 av2] ∧ (∀ j : Int, 0 ≤ j → j < 800 → av2 j = u j)) := by
  refine MV.of RX6 ⟨rfl, by decide +kernel⟩ (Nat.le_of_ble_eq_true rfl) ?_
  intro K C hret
  change K 0 0 _ [(0, .ref y)] 0 []
  refine y_iconst C dX6_putAside_0 ?_
  refine y_istore_n C [(1, .int (zI 0)), (0, .ref y)] dX6_putAside_1 (by decide) rfl ?_
  refine y_lsub C [1, 0] (lv' := [(0, .ref y), (1, .int (zI 0))]) rfl ?_
  suffices hL2 : ∀ (fu : Nat) (k : Int) (a1 : Int → Int), (0 ≤ k ∧ k ≤ 800) → (∀ j : Int, 0 ≤ j → j < k → a1 j = u j) → (900 - k).toNat < fu → K 0 0 [cO y 6 [.ref ms, .ref ma, .ref mp, .int (zI np), .ref mk, .int (zI ik), .ref md, .int (zI ml), .ref me, .ref mo, .int (zI sp), .int (zI wr), .int (zI tp), .int (zI bt), .int (zI lf), .int (zI rg), .int (zI dp)], cI cA ms 800 u, cI cA ma 800 a1] [(0, .ref y), (1, .int (zI k))] 2 [] from hL2 _ 0 av (by omega) (by intro j a b; omega) (Nat.lt_succ_self _)
  intro f2
  induction f2 with
  | zero => exact fun _ _ _ _ hf => absurd hf (Nat.not_lt_zero _)
  | succ f2 ih2 =>
    intro k a1 hk ha hf2
    refine y_iload_n C 1 dX6_putAside_2 rfl ?_
    refine y_sipush C dX6_putAside_3 (by decide +kernel) ?_
    refine y_icmp_ge C 27 dX6_putAside_6 (by decide) ⟨⟨by omega, by omega⟩, ⟨by omega, by omega⟩⟩ (fun c_1 => ?_) (fun c_1 => ?_)
    · refine hret _ _ _ dX6_putAside_27 ⟨a1, rfl, ?_⟩
      show (∀ j : Int, 0 ≤ j → j < 800 → a1 j = u j)
      exact fun j a b => ha j a (by omega)
    · refine y_aload_n C 0 dX6_putAside_9 rfl ?_
      refine y_get C fg_X6_13 0 dX6_putAside_10 rfl rfl ?_
      refine y_iload_n C 1 dX6_putAside_13 rfl ?_
      refine y_aload_n C 0 dX6_putAside_14 rfl ?_
      refine y_get C fg_X6_7 0 dX6_putAside_15 rfl rfl ?_
      refine y_iload_n C 1 dX6_putAside_18 rfl ?_
      refine y_iald C 1 0 dX6_putAside_19 rfl rfl ⟨by omega, by omega, by omega⟩ ?_
      refine y_iast C 2 0 [cO y 6 [.ref ms, .ref ma, .ref mp, .int (zI np), .ref mk, .int (zI ik), .ref md, .int (zI ml), .ref me, .ref mo, .int (zI sp), .int (zI wr), .int (zI tp), .int (zI bt), .int (zI lf), .int (zI rg), .int (zI dp)], cI cA ms 800 u, cI cA ma 800 (zU a1 k (u k))] dX6_putAside_20 rfl rfl ⟨by omega, by omega, by omega⟩ rfl ?_
      refine y_iinc C 1 [(1, .int (zI (k + 1))), (0, .ref y)] dX6_putAside_21 rfl (by decide) rfl ?_
      refine y_goto C 2 dX6_putAside_24 (by decide) ?_
      refine y_lsub C [1, 0] (lv' := [(0, .ref y), (1, .int (zI (k + 1)))]) rfl ?_
      exact ih2 (k + 1) (zU a1 k (u k)) (by omega) (by exact zU_ext ha rfl) (by omega)

set_option maxHeartbeats 4000000 in
set_option maxRecDepth 100000 in
theorem m_X6_putBack {l : Launch} {D : va_G} {cA cB : ClassId} {y ms ma mp mk md me mo : Nat} {np ik ml sp wr tp bt lf rg dp : Int} {u av : Int → Int}  : MV l yX6_putBack cX6_putBack 2 { frames := 0, cells := 0, slots := 0, locals := 0 } D (zT cA cB) [.ref y] [cO y 6 [.ref ms, .ref ma, .ref mp, .int (zI np), .ref mk, .int (zI ik), .ref md, .int (zI ml), .ref me, .ref mo, .int (zI sp), .int (zI wr), .int (zI tp), .int (zI bt), .int (zI lf), .int (zI rg), .int (zI dp)], cI cA ms 800 u, cI cA ma 800 av] (fun w => ∃ (u2 : Int → Int), w = [cO y 6 [.ref ms, .ref ma, .ref mp, .int (zI np), .ref mk, .int (zI ik), .ref md, .int (zI ml), .ref me, .ref mo, .int (zI sp), .int (zI wr), .int (zI tp), .int (zI bt), .int (zI lf), .int (zI rg), .int (zI dp)], cI cA ms 800 u2, cI cA ma 800 av] ∧ (∀ j : Int, 0 ≤ j → j < 800 → u2 j = av j)) := by
  refine MV.of RX6 ⟨rfl, by decide +kernel⟩ (Nat.le_of_ble_eq_true rfl) ?_
  intro K C hret
  change K 0 0 _ [(0, .ref y)] 0 []
  refine y_iconst C dX6_putBack_0 ?_
  refine y_istore_n C [(1, .int (zI 0)), (0, .ref y)] dX6_putBack_1 (by decide) rfl ?_
  refine y_lsub C [1, 0] (lv' := [(0, .ref y), (1, .int (zI 0))]) rfl ?_
  suffices hL2 : ∀ (fu : Nat) (k : Int) (a1 : Int → Int), (0 ≤ k ∧ k ≤ 800) → (∀ j : Int, 0 ≤ j → j < k → a1 j = av j) → (900 - k).toNat < fu → K 0 0 [cO y 6 [.ref ms, .ref ma, .ref mp, .int (zI np), .ref mk, .int (zI ik), .ref md, .int (zI ml), .ref me, .ref mo, .int (zI sp), .int (zI wr), .int (zI tp), .int (zI bt), .int (zI lf), .int (zI rg), .int (zI dp)], cI cA ms 800 a1, cI cA ma 800 av] [(0, .ref y), (1, .int (zI k))] 2 [] from hL2 _ 0 u (by omega) (by intro j a b; omega) (Nat.lt_succ_self _)
  intro f2
  induction f2 with
  | zero => exact fun _ _ _ _ hf => absurd hf (Nat.not_lt_zero _)
  | succ f2 ih2 =>
    intro k a1 hk ha hf2
    refine y_iload_n C 1 dX6_putBack_2 rfl ?_
    refine y_sipush C dX6_putBack_3 (by decide +kernel) ?_
    refine y_icmp_ge C 27 dX6_putBack_6 (by decide) ⟨⟨by omega, by omega⟩, ⟨by omega, by omega⟩⟩ (fun c_1 => ?_) (fun c_1 => ?_)
    · refine hret _ _ _ dX6_putBack_27 ⟨a1, rfl, ?_⟩
      show (∀ j : Int, 0 ≤ j → j < 800 → a1 j = av j)
      exact fun j a b => ha j a (by omega)
    · refine y_aload_n C 0 dX6_putBack_9 rfl ?_
      refine y_get C fg_X6_7 0 dX6_putBack_10 rfl rfl ?_
      refine y_iload_n C 1 dX6_putBack_13 rfl ?_
      refine y_aload_n C 0 dX6_putBack_14 rfl ?_
      refine y_get C fg_X6_13 0 dX6_putBack_15 rfl rfl ?_
      refine y_iload_n C 1 dX6_putBack_18 rfl ?_
      refine y_iald C 2 0 dX6_putBack_19 rfl rfl ⟨by omega, by omega, by omega⟩ ?_
      refine y_iast C 1 0 [cO y 6 [.ref ms, .ref ma, .ref mp, .int (zI np), .ref mk, .int (zI ik), .ref md, .int (zI ml), .ref me, .ref mo, .int (zI sp), .int (zI wr), .int (zI tp), .int (zI bt), .int (zI lf), .int (zI rg), .int (zI dp)], cI cA ms 800 (zU a1 k (av k)), cI cA ma 800 av] dX6_putBack_20 rfl rfl ⟨by omega, by omega, by omega⟩ rfl ?_
      refine y_iinc C 1 [(1, .int (zI (k + 1))), (0, .ref y)] dX6_putBack_21 rfl (by decide) rfl ?_
      refine y_goto C 2 dX6_putBack_24 (by decide) ?_
      refine y_lsub C [1, 0] (lv' := [(0, .ref y), (1, .int (zI (k + 1)))]) rfl ?_
      exact ih2 (k + 1) (zU a1 k (av k)) (by omega) (by exact zU_ext ha rfl) (by omega)

set_option maxHeartbeats 4000000 in
set_option maxRecDepth 100000 in
theorem m_X6_boundTo {l : Launch} {D : va_G} {cA cB : ClassId} {y ms ma mp mk md me mo : Nat} {np ik ml sp wr tp bt lf rg dp : Int} {u : Int → Int} {row c : Int} (hrow : 0 ≤ row ∧ row < 8) (hc : 0 ≤ c ∧ c < 32) (hU : UK u) : MI l yX6_boundTo cX6_boundTo 4 .int { frames := 2, cells := 0, slots := 0, locals := 43 } D (zT cA cB) [.ref y, .int (zI row), .int (zI c)] [cO y 6 [.ref ms, .ref ma, .ref mp, .int (zI np), .ref mk, .int (zI ik), .ref md, .int (zI ml), .ref me, .ref mo, .int (zI sp), .int (zI wr), .int (zI tp), .int (zI bt), .int (zI lf), .int (zI rg), .int (zI dp)], cI cA ms 800 u] (fun r w => w = [cO y 6 [.ref ms, .ref ma, .ref mp, .int (zI np), .ref mk, .int (zI ik), .ref md, .int (zI ml), .ref me, .ref mo, .int (zI sp), .int (zI wr), .int (zI tp), .int (zI bt), .int (zI lf), .int (zI rg), .int (zI dp)], cI cA ms 800 u] ∧ ((r = zb (u 0) (zp u row) c ∧ 0 ≤ r ∧ r < c) ∨ (r = -1 ∧ zb (u 0) (zp u row) c = -4))) := by
  refine MI.of RX6 ⟨rfl, by decide +kernel⟩ (Or.inl rfl) (Nat.le_of_ble_eq_true rfl) (fun h => by cases h) ?_
  intro K C hret
  change K 0 0 _ [(0, .ref y), (1, .int (zI row)), (2, .int (zI c))] 0 []
  have hus := hU.s
  have hup := hU.p
  have hud := hU.d
  have huk := hU.k
  have hul := hU.len
  have hut := hU.lot
  have hpu := hU.zpu hrow
  refine y_iload_n C 2 dX6_boundTo_0 rfl ?_
  refine y_aload_n C 0 dX6_boundTo_1 rfl ?_
  refine y_get C fg_X6_7 0 dX6_boundTo_2 rfl rfl ?_
  refine y_iconst C dX6_boundTo_5 ?_
  refine y_iald C 1 0 dX6_boundTo_6 rfl rfl ⟨by omega, by omega, by omega⟩ ?_
  refine y_isub C dX6_boundTo_7 ?_
  refine y_aload_n C 0 dX6_boundTo_8 rfl ?_
  refine y_iload_n C 1 dX6_boundTo_9 rfl ?_
  refine y_iload_n C 2 dX6_boundTo_10 rfl ?_
  refine y_pcall C (m_X6_planeOf (l := l) (D := D) (cA := cA) (cB := cB) (y := y) (ms := ms) (ma := ma) (mp := mp) (mk := mk) (md := md) (me := me) (mo := mo) (np := np) (ik := ik) (ml := ml) (sp := sp) (wr := wr) (tp := tp) (bt := bt) (lf := lf) (rg := rg) (dp := dp) (u := u) (row := row) (c := c) (by first | assumption | omega | exact ⟨by omega, by omega⟩) (by first | assumption | omega | exact ⟨by omega, by omega⟩) (by first | assumption | omega | exact ⟨by omega, by omega⟩)) lk_X6_43 [0, 1] [] [0, 1] ⟨rfl, rfl, by decide, by decide, by decide⟩ ⟨rfl, by decide⟩ rfl rfl dX6_boundTo_11 rfl rfl ⟨by exact Nat.le_of_ble_eq_true rfl, by exact Nat.le_of_ble_eq_true rfl, rfl, rfl, by exact Nat.le_of_ble_eq_true rfl, by exact Nat.le_of_ble_eq_true rfl, by exact Nat.le_of_ble_eq_true rfl⟩ (fun r_2 h_1 => ?_)
  have hz := (h_1).1
  have hz2 := zb_b (per := u 0) (p := zp u row) (c := c)
  have hz3 := zb_f (per := u 0) (p := zp u row) (c := c)
  refine y_iadd C dX6_boundTo_14 ?_
  refine y_istore_n C [(3, .int (zI ((c - (u 0)) + r_2))), (0, .ref y), (1, .int (zI row)), (2, .int (zI c))] dX6_boundTo_15 (by decide) rfl ?_
  refine y_iload_n C 0 dX6_boundTo_16 rfl ?_
  refine y_if_ge C 24 dX6_boundTo_17 (by decide) ⟨by omega, by omega⟩ (fun c_3 => ?_) (fun c_3 => ?_)
  · refine y_iload_n C 0 dX6_boundTo_24 rfl ?_
    refine hret _ _ _ _ dX6_boundTo_25 ⟨rfl, ?_⟩
    show ((((c - (u 0)) + r_2) = zb (u 0) (zp u row) c ∧ 0 ≤ ((c - (u 0)) + r_2) ∧ ((c - (u 0)) + r_2) < c) ∨ (((c - (u 0)) + r_2) = -1 ∧ zb (u 0) (zp u row) c = -4))
    omega
  · refine y_iconst C dX6_boundTo_20 ?_
    refine y_goto C 25 dX6_boundTo_21 (by decide) ?_
    refine hret _ _ _ _ dX6_boundTo_25 ⟨rfl, ?_⟩
    show (((-1) = zb (u 0) (zp u row) c ∧ 0 ≤ (-1) ∧ (-1) < c) ∨ ((-1) = -1 ∧ zb (u 0) (zp u row) c = -4))
    omega

set_option maxHeartbeats 4000000 in
set_option maxRecDepth 100000 in
theorem m_X6_manyBoundTo {l : Launch} {D : va_G} {cA cB : ClassId} {y ms ma mp mk md me mo : Nat} {np ik ml sp wr tp bt lf rg dp : Int} {u : Int → Int} {row c : Int} (hrow : 0 ≤ row ∧ row < 8) (hc : 0 ≤ c ∧ c < 32) (hU : UK u) : MI l yX6_manyBoundTo cX6_manyBoundTo 5 .int { frames := 3, cells := 0, slots := 0, locals := 66 } D (zT cA cB) [.ref y, .int (zI row), .int (zI c)] [cO y 6 [.ref ms, .ref ma, .ref mp, .int (zI np), .ref mk, .int (zI ik), .ref md, .int (zI ml), .ref me, .ref mo, .int (zI sp), .int (zI wr), .int (zI tp), .int (zI bt), .int (zI lf), .int (zI rg), .int (zI dp)], cI cA ms 800 u] (fun r w => w = [cO y 6 [.ref ms, .ref ma, .ref mp, .int (zI np), .ref mk, .int (zI ik), .ref md, .int (zI ml), .ref me, .ref mo, .int (zI sp), .int (zI wr), .int (zI tp), .int (zI bt), .int (zI lf), .int (zI rg), .int (zI dp)], cI cA ms 800 u] ∧ r = bndR u row c ∧ 0 ≤ r ∧ r ≤ 32) := by
  refine MI.of RX6 ⟨rfl, by decide +kernel⟩ (Or.inl rfl) (Nat.le_of_ble_eq_true rfl) (fun h => by cases h) ?_
  intro K C hret
  change K 0 0 _ [(0, .ref y), (1, .int (zI row)), (2, .int (zI c))] 0 []
  have hus := hU.s
  have hup := hU.p
  have hud := hU.d
  have huk := hU.k
  have hul := hU.len
  have hut := hU.lot
  have hpu := hU.zpu hrow
  refine y_iconst C dX6_manyBoundTo_0 ?_
  refine y_istore_n C [(3, .int (zI 0)), (0, .ref y), (1, .int (zI row)), (2, .int (zI c))] dX6_manyBoundTo_1 (by decide) rfl ?_
  refine y_iload_n C 3 dX6_manyBoundTo_2 rfl ?_
  refine y_iconst C dX6_manyBoundTo_3 ?_
  refine y_iadd C dX6_manyBoundTo_4 ?_
  refine y_istore C [(4, .int (zI (c + 1))), (3, .int (zI 0)), (0, .ref y), (1, .int (zI row)), (2, .int (zI c))] dX6_manyBoundTo_5 (by decide) rfl ?_
  refine y_lsub C [2, 3, 4, 1, 0] (lv' := [(0, .ref y), (1, .int (zI row)), (2, .int (zI c)), (3, .int (zI 0)), (4, .int (zI (c + 1)))]) rfl ?_
  suffices hL7 : ∀ (fu : Nat) (n : Int) (k : Int), (c + 1 ≤ k ∧ k ≤ 32) → (n = zcnt (fun j => zb (u 0) (zp u row) j = c) k ∧ 0 ≤ n ∧ n ≤ k) → (40 - k).toNat < fu → K 0 0 [cO y 6 [.ref ms, .ref ma, .ref mp, .int (zI np), .ref mk, .int (zI ik), .ref md, .int (zI ml), .ref me, .ref mo, .int (zI sp), .int (zI wr), .int (zI tp), .int (zI bt), .int (zI lf), .int (zI rg), .int (zI dp)], cI cA ms 800 u] [(0, .ref y), (1, .int (zI row)), (2, .int (zI c)), (3, .int (zI n)), (4, .int (zI k))] 7 [] from hL7 _ 0 (c + 1) (by omega) (by refine ⟨(zcnt_none (fun j a b q => ?_)).symm, by omega, by omega⟩; have := zb_r (hpu j a (by omega)); omega) (Nat.lt_succ_self _)
  intro f7
  induction f7 with
  | zero => exact fun _ _ _ _ hf => absurd hf (Nat.not_lt_zero _)
  | succ f7 ih7 =>
    intro n k hk hn hf7
    refine y_iload C 4 dX6_manyBoundTo_7 rfl ?_
    refine y_bipush C dX6_manyBoundTo_9 (by decide +kernel) ?_
    refine y_icmp_ge C 39 dX6_manyBoundTo_11 (by decide) ⟨⟨by omega, by omega⟩, ⟨by omega, by omega⟩⟩ (fun c_1 => ?_) (fun c_1 => ?_)
    · refine y_iload_n C 3 dX6_manyBoundTo_39 rfl ?_
      refine hret _ _ _ _ dX6_manyBoundTo_40 ⟨rfl, ?_⟩
      show n = bndR u row c ∧ 0 ≤ n ∧ n ≤ 32
      obtain rfl : k = 32 := by omega
      exact hn
    · refine y_iload_n C 3 dX6_manyBoundTo_14 rfl ?_
      refine y_aload_n C 0 dX6_manyBoundTo_15 rfl ?_
      refine y_iload_n C 1 dX6_manyBoundTo_16 rfl ?_
      refine y_iload C 4 dX6_manyBoundTo_17 rfl ?_
      refine y_pcall C (m_X6_boundTo (l := l) (D := D) (cA := cA) (cB := cB) (y := y) (ms := ms) (ma := ma) (mp := mp) (mk := mk) (md := md) (me := me) (mo := mo) (np := np) (ik := ik) (ml := ml) (sp := sp) (wr := wr) (tp := tp) (bt := bt) (lf := lf) (rg := rg) (dp := dp) (u := u) (row := row) (c := k) (by first | assumption | omega | exact ⟨by omega, by omega⟩) (by first | assumption | omega | exact ⟨by omega, by omega⟩) (by first | assumption | omega | exact ⟨by omega, by omega⟩)) lk_X6_46 [0, 1] [] [0, 1] ⟨rfl, rfl, by decide, by decide, by decide⟩ ⟨rfl, by decide⟩ rfl rfl dX6_manyBoundTo_19 rfl rfl ⟨by exact Nat.le_of_ble_eq_true rfl, by exact Nat.le_of_ble_eq_true rfl, rfl, rfl, by exact Nat.le_of_ble_eq_true rfl, by exact Nat.le_of_ble_eq_true rfl, by exact Nat.le_of_ble_eq_true rfl⟩ (fun r_3 h_2 => ?_)
      have hb := h_2
      refine y_iload_n C 2 dX6_manyBoundTo_22 rfl ?_
      refine y_icmp_ne C 30 dX6_manyBoundTo_23 (by decide) ⟨⟨by omega, by omega⟩, ⟨by omega, by omega⟩⟩ (fun c_4 => ?_) (fun c_4 => ?_)
      · refine y_iconst C dX6_manyBoundTo_30 ?_
        refine y_iadd C dX6_manyBoundTo_31 ?_
        refine y_istore_n C [(3, .int (zI (n + 0))), (0, .ref y), (1, .int (zI row)), (2, .int (zI c)), (4, .int (zI k))] dX6_manyBoundTo_32 (by decide) rfl ?_
        refine y_iinc C 4 [(4, .int (zI (k + 1))), (3, .int (zI (n + 0))), (0, .ref y), (1, .int (zI row)), (2, .int (zI c))] dX6_manyBoundTo_33 rfl (by decide) rfl ?_
        refine y_goto C 7 dX6_manyBoundTo_36 (by decide) ?_
        refine y_lsub C [2, 3, 4, 1, 0] (lv' := [(0, .ref y), (1, .int (zI row)), (2, .int (zI c)), (3, .int (zI (n + 0))), (4, .int (zI (k + 1)))]) rfl ?_
        exact ih7 (n + 0) (k + 1) (by omega) (by refine ⟨?_, by omega, by omega⟩; exact zcnt_step (by omega) hn.1 (by omega)) (by omega)
      · refine y_iconst C dX6_manyBoundTo_26 ?_
        refine y_goto C 31 dX6_manyBoundTo_27 (by decide) ?_
        refine y_iadd C dX6_manyBoundTo_31 ?_
        refine y_istore_n C [(3, .int (zI (n + 1))), (0, .ref y), (1, .int (zI row)), (2, .int (zI c)), (4, .int (zI k))] dX6_manyBoundTo_32 (by decide) rfl ?_
        refine y_iinc C 4 [(4, .int (zI (k + 1))), (3, .int (zI (n + 1))), (0, .ref y), (1, .int (zI row)), (2, .int (zI c))] dX6_manyBoundTo_33 rfl (by decide) rfl ?_
        refine y_goto C 7 dX6_manyBoundTo_36 (by decide) ?_
        refine y_lsub C [2, 3, 4, 1, 0] (lv' := [(0, .ref y), (1, .int (zI row)), (2, .int (zI c)), (3, .int (zI (n + 1))), (4, .int (zI (k + 1)))]) rfl ?_
        exact ih7 (n + 1) (k + 1) (by omega) (by refine ⟨?_, by omega, by omega⟩; exact zcnt_step (by omega) hn.1 (by omega)) (by omega)

set_option maxHeartbeats 4000000 in
set_option maxRecDepth 100000 in
theorem m_X6_freeOf {l : Launch} {D : va_G} {cA cB : ClassId} {y ms ma mp mk md me mo : Nat} {np ik ml sp wr tp bt lf rg dp : Int} {u : Int → Int} {row c : Int} (hrow : 0 ≤ row ∧ row < 8) (hc : 0 ≤ c ∧ c < 32) (hU : UK u) : MI l yX6_freeOf cX6_freeOf 4 .int { frames := 3, cells := 0, slots := 0, locals := 66 } D (zT cA cB) [.ref y, .int (zI row), .int (zI c)] [cO y 6 [.ref ms, .ref ma, .ref mp, .int (zI np), .ref mk, .int (zI ik), .ref md, .int (zI ml), .ref me, .ref mo, .int (zI sp), .int (zI wr), .int (zI tp), .int (zI bt), .int (zI lf), .int (zI rg), .int (zI dp)], cI cA ms 800 u] (fun r w => w = [cO y 6 [.ref ms, .ref ma, .ref mp, .int (zI np), .ref mk, .int (zI ik), .ref md, .int (zI ml), .ref me, .ref mo, .int (zI sp), .int (zI wr), .int (zI tp), .int (zI bt), .int (zI lf), .int (zI rg), .int (zI dp)], cI cA ms 800 u] ∧ r = chnR u row c ∧ 0 ≤ r ∧ r < 32) := by
  refine MI.of RX6 ⟨rfl, by decide +kernel⟩ (Or.inl rfl) (Nat.le_of_ble_eq_true rfl) (fun h => by cases h) ?_
  intro K C hret
  change K 0 0 _ [(0, .ref y), (1, .int (zI row)), (2, .int (zI c))] 0 []
  have hus := hU.s
  have hup := hU.p
  have hud := hU.d
  have huk := hU.k
  have hul := hU.len
  have hut := hU.lot
  have hpu := hU.zpu hrow
  refine y_iload_n C 2 dX6_freeOf_0 rfl ?_
  refine y_istore_n C [(3, .int (zI c)), (0, .ref y), (1, .int (zI row)), (2, .int (zI c))] dX6_freeOf_1 (by decide) rfl ?_
  refine y_lsub C [1, 2, 3, 0] (lv' := [(0, .ref y), (1, .int (zI row)), (2, .int (zI c)), (3, .int (zI c))]) rfl ?_
  suffices hL2 : ∀ (fu : Nat) (k : Int), (0 ≤ k ∧ k < 32) → (chnR u row k = chnR u row c) → (k).toNat < fu → K 0 0 [cO y 6 [.ref ms, .ref ma, .ref mp, .int (zI np), .ref mk, .int (zI ik), .ref md, .int (zI ml), .ref me, .ref mo, .int (zI sp), .int (zI wr), .int (zI tp), .int (zI bt), .int (zI lf), .int (zI rg), .int (zI dp)], cI cA ms 800 u] [(0, .ref y), (1, .int (zI row)), (2, .int (zI c)), (3, .int (zI k))] 2 [] from hL2 _ c (by omega) (by rfl) (Nat.lt_succ_self _)
  intro f2
  induction f2 with
  | zero => exact fun _ _ _ hf => absurd hf (Nat.not_lt_zero _)
  | succ f2 ih2 =>
    intro k hk hn hf2
    refine y_aload_n C 0 dX6_freeOf_2 rfl ?_
    refine y_iload_n C 1 dX6_freeOf_3 rfl ?_
    refine y_iload_n C 3 dX6_freeOf_4 rfl ?_
    refine y_pcall C (m_X6_boundTo (l := l) (D := D) (cA := cA) (cB := cB) (y := y) (ms := ms) (ma := ma) (mp := mp) (mk := mk) (md := md) (me := me) (mo := mo) (np := np) (ik := ik) (ml := ml) (sp := sp) (wr := wr) (tp := tp) (bt := bt) (lf := lf) (rg := rg) (dp := dp) (u := u) (row := row) (c := k) (by first | assumption | omega | exact ⟨by omega, by omega⟩) (by first | assumption | omega | exact ⟨by omega, by omega⟩) (by first | assumption | omega | exact ⟨by omega, by omega⟩)) lk_X6_46 [0, 1] [] [0, 1] ⟨rfl, rfl, by decide, by decide, by decide⟩ ⟨rfl, by decide⟩ rfl rfl dX6_freeOf_5 rfl rfl ⟨by exact Nat.le_of_ble_eq_true rfl, by exact Nat.le_of_ble_eq_true rfl, rfl, rfl, by exact Nat.le_of_ble_eq_true rfl, by exact Nat.le_of_ble_eq_true rfl, by exact Nat.le_of_ble_eq_true rfl⟩ (fun r_2 h_1 => ?_)
    have hb := h_1
    refine y_iconst C dX6_freeOf_8 ?_
    refine y_icmp_eq C 22 dX6_freeOf_9 (by decide) ⟨⟨by omega, by omega⟩, ⟨by omega, by omega⟩⟩ (fun c_3 => ?_) (fun c_3 => ?_)
    · refine y_iload_n C 3 dX6_freeOf_22 rfl ?_
      refine hret _ _ _ _ dX6_freeOf_23 ⟨rfl, ?_⟩
      show k = chnR u row c ∧ 0 ≤ k ∧ k < 32
      refine ⟨?_, by omega, by omega⟩
      rw [← hn]
      exact (chZ_f (by omega)).symm
    · refine y_aload_n C 0 dX6_freeOf_12 rfl ?_
      refine y_iload_n C 1 dX6_freeOf_13 rfl ?_
      refine y_iload_n C 3 dX6_freeOf_14 rfl ?_
      refine y_pcall C (m_X6_boundTo (l := l) (D := D) (cA := cA) (cB := cB) (y := y) (ms := ms) (ma := ma) (mp := mp) (mk := mk) (md := md) (me := me) (mo := mo) (np := np) (ik := ik) (ml := ml) (sp := sp) (wr := wr) (tp := tp) (bt := bt) (lf := lf) (rg := rg) (dp := dp) (u := u) (row := row) (c := k) (by first | assumption | omega | exact ⟨by omega, by omega⟩) (by first | assumption | omega | exact ⟨by omega, by omega⟩) (by first | assumption | omega | exact ⟨by omega, by omega⟩)) lk_X6_46 [0, 1] [] [0, 1] ⟨rfl, rfl, by decide, by decide, by decide⟩ ⟨rfl, by decide⟩ rfl rfl dX6_freeOf_15 rfl rfl ⟨by exact Nat.le_of_ble_eq_true rfl, by exact Nat.le_of_ble_eq_true rfl, rfl, rfl, by exact Nat.le_of_ble_eq_true rfl, by exact Nat.le_of_ble_eq_true rfl, by exact Nat.le_of_ble_eq_true rfl⟩ (fun r_5 h_4 => ?_)
      have hb2 := h_4
      refine y_istore_n C [(3, .int (zI r_5)), (0, .ref y), (1, .int (zI row)), (2, .int (zI c))] dX6_freeOf_18 (by decide) rfl ?_
      refine y_goto C 2 dX6_freeOf_19 (by decide) ?_
      refine y_lsub C [1, 2, 3, 0] (lv' := [(0, .ref y), (1, .int (zI row)), (2, .int (zI c)), (3, .int (zI r_5))]) rfl ?_
      exact ih2 r_5 (by omega) (by rw [← hn]; exact (chZ_b hpu hk (by omega) (by omega)).symm) (by omega)

set_option maxHeartbeats 4000000 in
set_option maxRecDepth 100000 in
theorem m_X6_chain {l : Launch} {D : va_G} {cA cB : ClassId} {y ms ma mp mk md me mo : Nat} {np ik ml sp wr tp bt lf rg dp : Int} {u : Int → Int} {row c : Int} (hrow : 0 ≤ row ∧ row < 8) (hc : 0 ≤ c ∧ c < 32) (hU : UK u) : MI l yX6_chain cX6_chain 5 .int { frames := 4, cells := 0, slots := 0, locals := 89 } D (zT cA cB) [.ref y, .int (zI row), .int (zI c)] [cO y 6 [.ref ms, .ref ma, .ref mp, .int (zI np), .ref mk, .int (zI ik), .ref md, .int (zI ml), .ref me, .ref mo, .int (zI sp), .int (zI wr), .int (zI tp), .int (zI bt), .int (zI lf), .int (zI rg), .int (zI dp)], cI cA ms 800 u] (fun r w => w = [cO y 6 [.ref ms, .ref ma, .ref mp, .int (zI np), .ref mk, .int (zI ik), .ref md, .int (zI ml), .ref me, .ref mo, .int (zI sp), .int (zI wr), .int (zI tp), .int (zI bt), .int (zI lf), .int (zI rg), .int (zI dp)], cI cA ms 800 u] ∧ r = zcnt (fun k => chnR u row k = chnR u row c) 32 ∧ 0 ≤ r ∧ r ≤ 32) := by
  refine MI.of RX6 ⟨rfl, by decide +kernel⟩ (Or.inl rfl) (Nat.le_of_ble_eq_true rfl) (fun h => by cases h) ?_
  intro K C hret
  change K 0 0 _ [(0, .ref y), (1, .int (zI row)), (2, .int (zI c))] 0 []
  refine y_iconst C dX6_chain_0 ?_
  refine y_istore_n C [(3, .int (zI 0)), (0, .ref y), (1, .int (zI row)), (2, .int (zI c))] dX6_chain_1 (by decide) rfl ?_
  refine y_iconst C dX6_chain_2 ?_
  refine y_istore C [(4, .int (zI 0)), (3, .int (zI 0)), (0, .ref y), (1, .int (zI row)), (2, .int (zI c))] dX6_chain_3 (by decide) rfl ?_
  refine y_lsub C [2, 3, 4, 1, 0] (lv' := [(0, .ref y), (1, .int (zI row)), (2, .int (zI c)), (3, .int (zI 0)), (4, .int (zI 0))]) rfl ?_
  suffices hL5 : ∀ (fu : Nat) (n : Int) (k : Int), (0 ≤ k ∧ k ≤ 32) → (n = zcnt (fun k => chnR u row k = chnR u row c) k ∧ 0 ≤ n ∧ n ≤ k) → (40 - k).toNat < fu → K 0 0 [cO y 6 [.ref ms, .ref ma, .ref mp, .int (zI np), .ref mk, .int (zI ik), .ref md, .int (zI ml), .ref me, .ref mo, .int (zI sp), .int (zI wr), .int (zI tp), .int (zI bt), .int (zI lf), .int (zI rg), .int (zI dp)], cI cA ms 800 u] [(0, .ref y), (1, .int (zI row)), (2, .int (zI c)), (3, .int (zI n)), (4, .int (zI k))] 5 [] from hL5 _ 0 0 (by omega) (by exact ⟨rfl, by omega, by omega⟩) (Nat.lt_succ_self _)
  intro f5
  induction f5 with
  | zero => exact fun _ _ _ _ hf => absurd hf (Nat.not_lt_zero _)
  | succ f5 ih5 =>
    intro n k hk hn hf5
    refine y_iload C 4 dX6_chain_5 rfl ?_
    refine y_bipush C dX6_chain_7 (by decide +kernel) ?_
    refine y_icmp_ge C 42 dX6_chain_9 (by decide) ⟨⟨by omega, by omega⟩, ⟨by omega, by omega⟩⟩ (fun c_1 => ?_) (fun c_1 => ?_)
    · refine y_iload_n C 3 dX6_chain_42 rfl ?_
      refine hret _ _ _ _ dX6_chain_43 ⟨rfl, ?_⟩
      show n = zcnt (fun k => chnR u row k = chnR u row c) 32 ∧ 0 ≤ n ∧ n ≤ 32
      obtain rfl : k = 32 := by omega
      exact hn
    · refine y_iload_n C 3 dX6_chain_12 rfl ?_
      refine y_aload_n C 0 dX6_chain_13 rfl ?_
      refine y_iload_n C 1 dX6_chain_14 rfl ?_
      refine y_iload C 4 dX6_chain_15 rfl ?_
      refine y_pcall C (m_X6_freeOf (l := l) (D := D) (cA := cA) (cB := cB) (y := y) (ms := ms) (ma := ma) (mp := mp) (mk := mk) (md := md) (me := me) (mo := mo) (np := np) (ik := ik) (ml := ml) (sp := sp) (wr := wr) (tp := tp) (bt := bt) (lf := lf) (rg := rg) (dp := dp) (u := u) (row := row) (c := k) (by first | assumption | omega | exact ⟨by omega, by omega⟩) (by first | assumption | omega | exact ⟨by omega, by omega⟩) (by first | assumption | omega | exact ⟨by omega, by omega⟩)) lk_X6_49 [0, 1] [] [0, 1] ⟨rfl, rfl, by decide, by decide, by decide⟩ ⟨rfl, by decide⟩ rfl rfl dX6_chain_17 rfl rfl ⟨by exact Nat.le_of_ble_eq_true rfl, by exact Nat.le_of_ble_eq_true rfl, rfl, rfl, by exact Nat.le_of_ble_eq_true rfl, by exact Nat.le_of_ble_eq_true rfl, by exact Nat.le_of_ble_eq_true rfl⟩ (fun r_3 h_2 => ?_)
      have hb := h_2
      refine y_aload_n C 0 dX6_chain_20 rfl ?_
      refine y_iload_n C 1 dX6_chain_21 rfl ?_
      refine y_iload_n C 2 dX6_chain_22 rfl ?_
      refine y_pcall C (m_X6_freeOf (l := l) (D := D) (cA := cA) (cB := cB) (y := y) (ms := ms) (ma := ma) (mp := mp) (mk := mk) (md := md) (me := me) (mo := mo) (np := np) (ik := ik) (ml := ml) (sp := sp) (wr := wr) (tp := tp) (bt := bt) (lf := lf) (rg := rg) (dp := dp) (u := u) (row := row) (c := c) (by first | assumption | omega | exact ⟨by omega, by omega⟩) (by first | assumption | omega | exact ⟨by omega, by omega⟩) (by first | assumption | omega | exact ⟨by omega, by omega⟩)) lk_X6_49 [0, 1] [] [0, 1] ⟨rfl, rfl, by decide, by decide, by decide⟩ ⟨rfl, by decide⟩ rfl rfl dX6_chain_23 rfl rfl ⟨by exact Nat.le_of_ble_eq_true rfl, by exact Nat.le_of_ble_eq_true rfl, rfl, rfl, by exact Nat.le_of_ble_eq_true rfl, by exact Nat.le_of_ble_eq_true rfl, by exact Nat.le_of_ble_eq_true rfl⟩ (fun r_5 h_4 => ?_)
      have hb2 := h_4
      refine y_icmp_ne C 33 dX6_chain_26 (by decide) ⟨⟨by omega, by omega⟩, ⟨by omega, by omega⟩⟩ (fun c_6 => ?_) (fun c_6 => ?_)
      · refine y_iconst C dX6_chain_33 ?_
        refine y_iadd C dX6_chain_34 ?_
        refine y_istore_n C [(3, .int (zI (n + 0))), (0, .ref y), (1, .int (zI row)), (2, .int (zI c)), (4, .int (zI k))] dX6_chain_35 (by decide) rfl ?_
        refine y_iinc C 4 [(4, .int (zI (k + 1))), (3, .int (zI (n + 0))), (0, .ref y), (1, .int (zI row)), (2, .int (zI c))] dX6_chain_36 rfl (by decide) rfl ?_
        refine y_goto C 5 dX6_chain_39 (by decide) ?_
        refine y_lsub C [2, 3, 4, 1, 0] (lv' := [(0, .ref y), (1, .int (zI row)), (2, .int (zI c)), (3, .int (zI (n + 0))), (4, .int (zI (k + 1)))]) rfl ?_
        exact ih5 (n + 0) (k + 1) (by omega) (by refine ⟨?_, by omega, by omega⟩; exact zcnt_step (by omega) hn.1 (by omega)) (by omega)
      · refine y_iconst C dX6_chain_29 ?_
        refine y_goto C 34 dX6_chain_30 (by decide) ?_
        refine y_iadd C dX6_chain_34 ?_
        refine y_istore_n C [(3, .int (zI (n + 1))), (0, .ref y), (1, .int (zI row)), (2, .int (zI c)), (4, .int (zI k))] dX6_chain_35 (by decide) rfl ?_
        refine y_iinc C 4 [(4, .int (zI (k + 1))), (3, .int (zI (n + 1))), (0, .ref y), (1, .int (zI row)), (2, .int (zI c))] dX6_chain_36 rfl (by decide) rfl ?_
        refine y_goto C 5 dX6_chain_39 (by decide) ?_
        refine y_lsub C [2, 3, 4, 1, 0] (lv' := [(0, .ref y), (1, .int (zI row)), (2, .int (zI c)), (3, .int (zI (n + 1))), (4, .int (zI (k + 1)))]) rfl ?_
        exact ih5 (n + 1) (k + 1) (by omega) (by refine ⟨?_, by omega, by omega⟩; exact zcnt_step (by omega) hn.1 (by omega)) (by omega)

set_option maxHeartbeats 4000000 in
set_option maxRecDepth 100000 in
theorem m_X6_doesFit {l : Launch} {D : va_G} {cA cB : ClassId} {y ms ma mp mk md me mo : Nat} {np ik ml sp wr tp bt lf rg dp : Int} {u : Int → Int} {row c q : Int} (hrow : 0 ≤ row ∧ row < 8) (hc : 0 ≤ c ∧ c < 32) (hq : 0 ≤ q ∧ q ≤ 4) (hU : UK u) : MI l yX6_doesFit cX6_doesFit 8 .boolean { frames := 2, cells := 0, slots := 0, locals := 43 } D (zT cA cB) [.ref y, .int (zI row), .int (zI c), .int (zI q)] [cO y 6 [.ref ms, .ref ma, .ref mp, .int (zI np), .ref mk, .int (zI ik), .ref md, .int (zI ml), .ref me, .ref mo, .int (zI sp), .int (zI wr), .int (zI tp), .int (zI bt), .int (zI lf), .int (zI rg), .int (zI dp)], cI cA ms 800 u] (fun r w => w = [cO y 6 [.ref ms, .ref ma, .ref mp, .int (zI np), .ref mk, .int (zI ik), .ref md, .int (zI ml), .ref me, .ref mo, .int (zI sp), .int (zI wr), .int (zI tp), .int (zI bt), .int (zI lf), .int (zI rg), .int (zI dp)], cI cA ms 800 u] ∧ ((r = 1 ∧ (fitP (u 0) (u 2) (zd u row) c q)) ∨ (r = 0 ∧ ¬ (fitP (u 0) (u 2) (zd u row) c q)))) := by
  refine MI.of RX6 ⟨rfl, by decide +kernel⟩ (Or.inr rfl) (Nat.le_of_ble_eq_true rfl) (fun _ r w h => by rcases h.2 with h | h; exact Or.inr h.1; exact Or.inl h.1) ?_
  intro K C hret
  change K 0 0 _ [(0, .ref y), (1, .int (zI row)), (2, .int (zI c)), (3, .int (zI q))] 0 []
  have hus := hU.s
  have hup := hU.p
  have hud := hU.d
  have huk := hU.k
  have hul := hU.len
  have hut := hU.lot
  have hpu := hU.zpu hrow
  refine y_aload_n C 0 dX6_doesFit_0 rfl ?_
  refine y_get C fg_X6_7 0 dX6_doesFit_1 rfl rfl ?_
  refine y_iconst C dX6_doesFit_4 ?_
  refine y_iald C 1 0 dX6_doesFit_5 rfl rfl ⟨by omega, by omega, by omega⟩ ?_
  refine y_iload_n C 3 dX6_doesFit_6 rfl ?_
  refine y_isub C dX6_doesFit_7 ?_
  refine y_istore C [(4, .int (zI ((u 0) - q))), (0, .ref y), (1, .int (zI row)), (2, .int (zI c)), (3, .int (zI q))] dX6_doesFit_8 (by decide) rfl ?_
  refine y_iload_n C 3 dX6_doesFit_10 rfl ?_
  refine y_iload C 0 dX6_doesFit_11 rfl ?_
  refine y_icmp_ge C 18 dX6_doesFit_13 (by decide) ⟨⟨by omega, by omega⟩, ⟨by omega, by omega⟩⟩ (fun c_1 => ?_) (fun c_1 => ?_)
  · refine y_iconst C dX6_doesFit_18 ?_
    refine y_istore C [(5, .int (zI 1)), (4, .int (zI ((u 0) - q))), (0, .ref y), (1, .int (zI row)), (2, .int (zI c)), (3, .int (zI q))] dX6_doesFit_19 (by decide) rfl ?_
    refine y_iload_n C 4 dX6_doesFit_21 rfl ?_
    refine y_aload_n C 2 dX6_doesFit_22 rfl ?_
    refine y_get C fg_X6_7 0 dX6_doesFit_23 rfl rfl ?_
    refine y_iconst C dX6_doesFit_26 ?_
    refine y_iald C 1 0 dX6_doesFit_27 rfl rfl ⟨by omega, by omega, by omega⟩ ?_
    refine y_isub C dX6_doesFit_28 ?_
    refine y_istore C [(6, .int (zI (c - (u 2)))), (5, .int (zI 1)), (4, .int (zI ((u 0) - q))), (0, .ref y), (1, .int (zI row)), (2, .int (zI c)), (3, .int (zI q))] dX6_doesFit_29 (by decide) rfl ?_
    refine y_lsub C [3, 4, 5, 6, 2, 1, 0] (lv' := [(0, .ref y), (1, .int (zI row)), (2, .int (zI c)), (3, .int (zI q)), (4, .int (zI ((u 0) - q))), (5, .int (zI 1)), (6, .int (zI (c - (u 2))))]) rfl ?_
    suffices hL31 : ∀ (fu : Nat) (is : Int) (k : Int), (c - u 2 ≤ k ∧ k ≤ c + u 2 + 1) → ((is = 1 ∧ ∀ j : Int, c - u 2 ≤ j → j < k → j ≤ 31 → u 0 - q ≤ j → zd u row j = zd u row (j - (u 0 - q))) ∨ (is = 0 ∧ ¬ (fitP (u 0) (u 2) (zd u row) c q))) → (c + u 2 + 1 - k).toNat < fu → K 0 0 [cO y 6 [.ref ms, .ref ma, .ref mp, .int (zI np), .ref mk, .int (zI ik), .ref md, .int (zI ml), .ref me, .ref mo, .int (zI sp), .int (zI wr), .int (zI tp), .int (zI bt), .int (zI lf), .int (zI rg), .int (zI dp)], cI cA ms 800 u] [(0, .ref y), (1, .int (zI row)), (2, .int (zI c)), (3, .int (zI q)), (4, .int (zI ((u 0) - q))), (5, .int (zI is)), (6, .int (zI k))] 31 [] from hL31 _ 1 (c - (u 2)) (by omega) (by exact Or.inl ⟨rfl, fun j a b => by omega⟩) (Nat.lt_succ_self _)
    intro f31
    induction f31 with
    | zero => exact fun _ _ _ _ hf => absurd hf (Nat.not_lt_zero _)
    | succ f31 ih31 =>
      intro is k hk hn hf31
      refine y_iload C 6 dX6_doesFit_31 rfl ?_
      refine y_iload_n C 2 dX6_doesFit_33 rfl ?_
      refine y_aload_n C 0 dX6_doesFit_34 rfl ?_
      refine y_get C fg_X6_7 0 dX6_doesFit_35 rfl rfl ?_
      refine y_iconst C dX6_doesFit_38 ?_
      refine y_iald C 1 0 dX6_doesFit_39 rfl rfl ⟨by omega, by omega, by omega⟩ ?_
      refine y_iadd C dX6_doesFit_40 ?_
      refine y_icmp_gt C 113 dX6_doesFit_41 (by decide) ⟨⟨by omega, by omega⟩, ⟨by omega, by omega⟩⟩ (fun c_2 => ?_) (fun c_2 => ?_)
      · refine y_iload C 5 dX6_doesFit_113 rfl ?_
        refine hret _ _ _ _ dX6_doesFit_115 ⟨rfl, ?_⟩
        show ((is = 1 ∧ (fitP (u 0) (u 2) (zd u row) c q)) ∨ (is = 0 ∧ ¬ (fitP (u 0) (u 2) (zd u row) c q)))
        rcases hn with ⟨n1, n2⟩ | ⟨n1, n2⟩
        · exact Or.inl ⟨n1, by omega, fun j a b d e => n2 j a (by omega) d e⟩
        · exact Or.inr ⟨n1, n2⟩
      · refine y_iload C 6 dX6_doesFit_44 rfl ?_
        refine y_pcalls C (m_X6_isColumn (l := l) (D := D) (cA := cA) (cB := cB) (xx := k) (by first | assumption | exact ⟨by omega, by omega⟩)) lk_X6_52 [] [0, 1] [0, 1] ⟨rfl, rfl, by decide, by decide, by decide⟩ ⟨rfl, by decide⟩ dX6_doesFit_46 rfl rfl ⟨by exact Nat.le_of_ble_eq_true rfl, by exact Nat.le_of_ble_eq_true rfl, rfl, rfl, by exact Nat.le_of_ble_eq_true rfl, by exact Nat.le_of_ble_eq_true rfl, by exact Nat.le_of_ble_eq_true rfl⟩ (fun r_4 h_3 => ?_)
        have hb1 := h_3
        refine y_if_eq C 67 dX6_doesFit_49 (by decide) ⟨by omega, by omega⟩ (fun c_5 => ?_) (fun c_5 => ?_)
        · refine y_iconst C dX6_doesFit_67 ?_
          refine y_istore C [(7, .int (zI 0)), (0, .ref y), (1, .int (zI row)), (2, .int (zI c)), (3, .int (zI q)), (4, .int (zI ((u 0) - q))), (5, .int (zI is)), (6, .int (zI k))] dX6_doesFit_68 (by decide) rfl ?_
          refine y_iload C 6 dX6_doesFit_70 rfl ?_
          refine y_if_eq C 104 dX6_doesFit_72 (by decide) ⟨by omega, by omega⟩ (fun c_6 => ?_) (fun c_6 => ?_)
          · refine y_iconst C dX6_doesFit_104 ?_
            refine y_istore C [(5, .int (zI 0)), (7, .int (zI 0)), (0, .ref y), (1, .int (zI row)), (2, .int (zI c)), (3, .int (zI q)), (4, .int (zI ((u 0) - q))), (6, .int (zI k))] dX6_doesFit_105 (by decide) rfl ?_
            refine y_iinc C 7 [(6, .int (zI (k + 1))), (5, .int (zI 0)), (7, .int (zI 0)), (0, .ref y), (1, .int (zI row)), (2, .int (zI c)), (3, .int (zI q)), (4, .int (zI ((u 0) - q)))] dX6_doesFit_107 rfl (by decide) rfl ?_
            refine y_goto C 31 dX6_doesFit_110 (by decide) ?_
            refine y_lsub C [3, 4, 5, 6, 7, 1, 0] (lv' := [(0, .ref y), (1, .int (zI row)), (2, .int (zI c)), (3, .int (zI q)), (4, .int (zI ((u 0) - q))), (5, .int (zI 0)), (6, .int (zI (k + 1)))]) rfl ?_
            exact ih31 0 (k + 1) (by omega) (by rcases hn with ⟨n1, n2⟩ | ⟨n1, n2⟩; (first | (exfalso; omega) | exact Or.inl ⟨by omega, fun j a b d e => by rcases (show j < k ∨ j = k from by omega) with z | z; exact n2 j a z d e; subst z; omega⟩ | exact Or.inr ⟨by omega, fun z => by have := z.2 k (by omega) (by omega) (by omega) (by omega); omega⟩); (first | (exfalso; omega) | exact Or.inr ⟨by omega, n2⟩)) (by omega)
          · refine y_iload C 0 dX6_doesFit_75 rfl ?_
            refine y_if_eq C 100 dX6_doesFit_77 (by decide) ⟨by omega, by omega⟩ (fun _ => ?_) (fun h => absurd h (by decide))
            refine y_iconst C dX6_doesFit_100 ?_
            refine y_goto C 105 dX6_doesFit_101 (by decide) ?_
            refine y_istore C [(5, .int (zI 1)), (7, .int (zI 0)), (0, .ref y), (1, .int (zI row)), (2, .int (zI c)), (3, .int (zI q)), (4, .int (zI ((u 0) - q))), (6, .int (zI k))] dX6_doesFit_105 (by decide) rfl ?_
            refine y_iinc C 7 [(6, .int (zI (k + 1))), (5, .int (zI 1)), (7, .int (zI 0)), (0, .ref y), (1, .int (zI row)), (2, .int (zI c)), (3, .int (zI q)), (4, .int (zI ((u 0) - q)))] dX6_doesFit_107 rfl (by decide) rfl ?_
            refine y_goto C 31 dX6_doesFit_110 (by decide) ?_
            refine y_lsub C [3, 4, 5, 6, 7, 1, 0] (lv' := [(0, .ref y), (1, .int (zI row)), (2, .int (zI c)), (3, .int (zI q)), (4, .int (zI ((u 0) - q))), (5, .int (zI 1)), (6, .int (zI (k + 1)))]) rfl ?_
            exact ih31 1 (k + 1) (by omega) (by rcases hn with ⟨n1, n2⟩ | ⟨n1, n2⟩; (first | (exfalso; omega) | exact Or.inl ⟨by omega, fun j a b d e => by rcases (show j < k ∨ j = k from by omega) with z | z; exact n2 j a z d e; subst z; omega⟩ | exact Or.inr ⟨by omega, fun z => by have := z.2 k (by omega) (by omega) (by omega) (by omega); omega⟩); (first | (exfalso; omega) | exact Or.inr ⟨by omega, n2⟩)) (by omega)
        · refine y_iload C 6 dX6_doesFit_52 rfl ?_
          refine y_iload C 4 dX6_doesFit_54 rfl ?_
          refine y_isub C dX6_doesFit_56 ?_
          refine y_pcalls C (m_X6_isColumn (l := l) (D := D) (cA := cA) (cB := cB) (xx := k - ((u 0) - q)) (by first | assumption | exact ⟨by omega, by omega⟩)) lk_X6_52 [] [0, 1] [0, 1] ⟨rfl, rfl, by decide, by decide, by decide⟩ ⟨rfl, by decide⟩ dX6_doesFit_57 rfl rfl ⟨by exact Nat.le_of_ble_eq_true rfl, by exact Nat.le_of_ble_eq_true rfl, rfl, rfl, by exact Nat.le_of_ble_eq_true rfl, by exact Nat.le_of_ble_eq_true rfl, by exact Nat.le_of_ble_eq_true rfl⟩ (fun r_9 h_8 => ?_)
          have hb2 := h_8
          refine y_if_eq C 67 dX6_doesFit_60 (by decide) ⟨by omega, by omega⟩ (fun c_10 => ?_) (fun c_10 => ?_)
          · refine y_iconst C dX6_doesFit_67 ?_
            refine y_istore C [(7, .int (zI 0)), (0, .ref y), (1, .int (zI row)), (2, .int (zI c)), (3, .int (zI q)), (4, .int (zI ((u 0) - q))), (5, .int (zI is)), (6, .int (zI k))] dX6_doesFit_68 (by decide) rfl ?_
            refine y_iload C 6 dX6_doesFit_70 rfl ?_
            refine y_if_eq C 104 dX6_doesFit_72 (by decide) ⟨by omega, by omega⟩ (fun c_11 => ?_) (fun c_11 => ?_)
            · refine y_iconst C dX6_doesFit_104 ?_
              refine y_istore C [(5, .int (zI 0)), (7, .int (zI 0)), (0, .ref y), (1, .int (zI row)), (2, .int (zI c)), (3, .int (zI q)), (4, .int (zI ((u 0) - q))), (6, .int (zI k))] dX6_doesFit_105 (by decide) rfl ?_
              refine y_iinc C 7 [(6, .int (zI (k + 1))), (5, .int (zI 0)), (7, .int (zI 0)), (0, .ref y), (1, .int (zI row)), (2, .int (zI c)), (3, .int (zI q)), (4, .int (zI ((u 0) - q)))] dX6_doesFit_107 rfl (by decide) rfl ?_
              refine y_goto C 31 dX6_doesFit_110 (by decide) ?_
              refine y_lsub C [3, 4, 5, 6, 7, 1, 0] (lv' := [(0, .ref y), (1, .int (zI row)), (2, .int (zI c)), (3, .int (zI q)), (4, .int (zI ((u 0) - q))), (5, .int (zI 0)), (6, .int (zI (k + 1)))]) rfl ?_
              exact ih31 0 (k + 1) (by omega) (by rcases hn with ⟨n1, n2⟩ | ⟨n1, n2⟩; (first | (exfalso; omega) | exact Or.inl ⟨by omega, fun j a b d e => by rcases (show j < k ∨ j = k from by omega) with z | z; exact n2 j a z d e; subst z; omega⟩ | exact Or.inr ⟨by omega, fun z => by have := z.2 k (by omega) (by omega) (by omega) (by omega); omega⟩); (first | (exfalso; omega) | exact Or.inr ⟨by omega, n2⟩)) (by omega)
            · refine y_iload C 0 dX6_doesFit_75 rfl ?_
              refine y_if_eq C 100 dX6_doesFit_77 (by decide) ⟨by omega, by omega⟩ (fun _ => ?_) (fun h => absurd h (by decide))
              refine y_iconst C dX6_doesFit_100 ?_
              refine y_goto C 105 dX6_doesFit_101 (by decide) ?_
              refine y_istore C [(5, .int (zI 1)), (7, .int (zI 0)), (0, .ref y), (1, .int (zI row)), (2, .int (zI c)), (3, .int (zI q)), (4, .int (zI ((u 0) - q))), (6, .int (zI k))] dX6_doesFit_105 (by decide) rfl ?_
              refine y_iinc C 7 [(6, .int (zI (k + 1))), (5, .int (zI 1)), (7, .int (zI 0)), (0, .ref y), (1, .int (zI row)), (2, .int (zI c)), (3, .int (zI q)), (4, .int (zI ((u 0) - q)))] dX6_doesFit_107 rfl (by decide) rfl ?_
              refine y_goto C 31 dX6_doesFit_110 (by decide) ?_
              refine y_lsub C [3, 4, 5, 6, 7, 1, 0] (lv' := [(0, .ref y), (1, .int (zI row)), (2, .int (zI c)), (3, .int (zI q)), (4, .int (zI ((u 0) - q))), (5, .int (zI 1)), (6, .int (zI (k + 1)))]) rfl ?_
              exact ih31 1 (k + 1) (by omega) (by rcases hn with ⟨n1, n2⟩ | ⟨n1, n2⟩; (first | (exfalso; omega) | exact Or.inl ⟨by omega, fun j a b d e => by rcases (show j < k ∨ j = k from by omega) with z | z; exact n2 j a z d e; subst z; omega⟩ | exact Or.inr ⟨by omega, fun z => by have := z.2 k (by omega) (by omega) (by omega) (by omega); omega⟩); (first | (exfalso; omega) | exact Or.inr ⟨by omega, n2⟩)) (by omega)
          · refine y_iconst C dX6_doesFit_63 ?_
            refine y_goto C 68 dX6_doesFit_64 (by decide) ?_
            refine y_istore C [(7, .int (zI 1)), (0, .ref y), (1, .int (zI row)), (2, .int (zI c)), (3, .int (zI q)), (4, .int (zI ((u 0) - q))), (5, .int (zI is)), (6, .int (zI k))] dX6_doesFit_68 (by decide) rfl ?_
            refine y_iload C 6 dX6_doesFit_70 rfl ?_
            refine y_if_eq C 104 dX6_doesFit_72 (by decide) ⟨by omega, by omega⟩ (fun c_13 => ?_) (fun c_13 => ?_)
            · refine y_iconst C dX6_doesFit_104 ?_
              refine y_istore C [(5, .int (zI 0)), (7, .int (zI 1)), (0, .ref y), (1, .int (zI row)), (2, .int (zI c)), (3, .int (zI q)), (4, .int (zI ((u 0) - q))), (6, .int (zI k))] dX6_doesFit_105 (by decide) rfl ?_
              refine y_iinc C 7 [(6, .int (zI (k + 1))), (5, .int (zI 0)), (7, .int (zI 1)), (0, .ref y), (1, .int (zI row)), (2, .int (zI c)), (3, .int (zI q)), (4, .int (zI ((u 0) - q)))] dX6_doesFit_107 rfl (by decide) rfl ?_
              refine y_goto C 31 dX6_doesFit_110 (by decide) ?_
              refine y_lsub C [3, 4, 5, 6, 7, 1, 0] (lv' := [(0, .ref y), (1, .int (zI row)), (2, .int (zI c)), (3, .int (zI q)), (4, .int (zI ((u 0) - q))), (5, .int (zI 0)), (6, .int (zI (k + 1)))]) rfl ?_
              exact ih31 0 (k + 1) (by omega) (by rcases hn with ⟨n1, n2⟩ | ⟨n1, n2⟩; (first | (exfalso; omega) | exact Or.inl ⟨by omega, fun j a b d e => by rcases (show j < k ∨ j = k from by omega) with z | z; exact n2 j a z d e; subst z; omega⟩ | exact Or.inr ⟨by omega, fun z => by have := z.2 k (by omega) (by omega) (by omega) (by omega); omega⟩); (first | (exfalso; omega) | exact Or.inr ⟨by omega, n2⟩)) (by omega)
            · refine y_iload C 0 dX6_doesFit_75 rfl ?_
              refine y_if_eq C 100 dX6_doesFit_77 (by decide) ⟨by omega, by omega⟩ (fun h => absurd h (by decide)) (fun _ => ?_)
              refine y_aload_n C 1 dX6_doesFit_80 rfl ?_
              refine y_iload_n C 2 dX6_doesFit_81 rfl ?_
              refine y_iload C 7 dX6_doesFit_82 rfl ?_
              refine y_pcall C (m_X6_dotOf (l := l) (D := D) (cA := cA) (cB := cB) (y := y) (ms := ms) (ma := ma) (mp := mp) (mk := mk) (md := md) (me := me) (mo := mo) (np := np) (ik := ik) (ml := ml) (sp := sp) (wr := wr) (tp := tp) (bt := bt) (lf := lf) (rg := rg) (dp := dp) (u := u) (row := row) (c := k) (by first | assumption | omega | exact ⟨by omega, by omega⟩) (by first | assumption | omega | exact ⟨by omega, by omega⟩) (by first | assumption | omega | exact ⟨by omega, by omega⟩)) lk_X6_56 [0, 1] [] [0, 1] ⟨rfl, rfl, by decide, by decide, by decide⟩ ⟨rfl, by decide⟩ rfl rfl dX6_doesFit_84 rfl rfl ⟨by exact Nat.le_of_ble_eq_true rfl, by exact Nat.le_of_ble_eq_true rfl, rfl, rfl, by exact Nat.le_of_ble_eq_true rfl, by exact Nat.le_of_ble_eq_true rfl, by exact Nat.le_of_ble_eq_true rfl⟩ (fun r_16 h_15 => ?_)
              have hd1 := (h_15)
              refine y_aload_n C 1 dX6_doesFit_87 rfl ?_
              refine y_iload_n C 2 dX6_doesFit_88 rfl ?_
              refine y_iload C 7 dX6_doesFit_89 rfl ?_
              refine y_iload C 5 dX6_doesFit_91 rfl ?_
              refine y_isub C dX6_doesFit_93 ?_
              refine y_pcall C (m_X6_dotOf (l := l) (D := D) (cA := cA) (cB := cB) (y := y) (ms := ms) (ma := ma) (mp := mp) (mk := mk) (md := md) (me := me) (mo := mo) (np := np) (ik := ik) (ml := ml) (sp := sp) (wr := wr) (tp := tp) (bt := bt) (lf := lf) (rg := rg) (dp := dp) (u := u) (row := row) (c := k - ((u 0) - q)) (by first | assumption | omega | exact ⟨by omega, by omega⟩) (by first | assumption | omega | exact ⟨by omega, by omega⟩) (by first | assumption | omega | exact ⟨by omega, by omega⟩)) lk_X6_56 [0, 1] [] [0, 1] ⟨rfl, rfl, by decide, by decide, by decide⟩ ⟨rfl, by decide⟩ rfl rfl dX6_doesFit_94 rfl rfl ⟨by exact Nat.le_of_ble_eq_true rfl, by exact Nat.le_of_ble_eq_true rfl, rfl, rfl, by exact Nat.le_of_ble_eq_true rfl, by exact Nat.le_of_ble_eq_true rfl, by exact Nat.le_of_ble_eq_true rfl⟩ (fun r_18 h_17 => ?_)
              have hd2 := (h_17)
              refine y_icmp_ne C 104 dX6_doesFit_97 (by decide) ⟨⟨by omega, by omega⟩, ⟨by omega, by omega⟩⟩ (fun c_19 => ?_) (fun c_19 => ?_)
              · refine y_iconst C dX6_doesFit_104 ?_
                refine y_istore C [(5, .int (zI 0)), (7, .int (zI 1)), (0, .ref y), (1, .int (zI row)), (2, .int (zI c)), (3, .int (zI q)), (4, .int (zI ((u 0) - q))), (6, .int (zI k))] dX6_doesFit_105 (by decide) rfl ?_
                refine y_iinc C 7 [(6, .int (zI (k + 1))), (5, .int (zI 0)), (7, .int (zI 1)), (0, .ref y), (1, .int (zI row)), (2, .int (zI c)), (3, .int (zI q)), (4, .int (zI ((u 0) - q)))] dX6_doesFit_107 rfl (by decide) rfl ?_
                refine y_goto C 31 dX6_doesFit_110 (by decide) ?_
                refine y_lsub C [3, 4, 5, 6, 7, 1, 0] (lv' := [(0, .ref y), (1, .int (zI row)), (2, .int (zI c)), (3, .int (zI q)), (4, .int (zI ((u 0) - q))), (5, .int (zI 0)), (6, .int (zI (k + 1)))]) rfl ?_
                exact ih31 0 (k + 1) (by omega) (by rcases hn with ⟨n1, n2⟩ | ⟨n1, n2⟩; (first | (exfalso; omega) | exact Or.inl ⟨by omega, fun j a b d e => by rcases (show j < k ∨ j = k from by omega) with z | z; exact n2 j a z d e; subst z; omega⟩ | exact Or.inr ⟨by omega, fun z => by have := z.2 k (by omega) (by omega) (by omega) (by omega); omega⟩); (first | (exfalso; omega) | exact Or.inr ⟨by omega, n2⟩)) (by omega)
              · refine y_iconst C dX6_doesFit_100 ?_
                refine y_goto C 105 dX6_doesFit_101 (by decide) ?_
                refine y_istore C [(5, .int (zI 1)), (7, .int (zI 1)), (0, .ref y), (1, .int (zI row)), (2, .int (zI c)), (3, .int (zI q)), (4, .int (zI ((u 0) - q))), (6, .int (zI k))] dX6_doesFit_105 (by decide) rfl ?_
                refine y_iinc C 7 [(6, .int (zI (k + 1))), (5, .int (zI 1)), (7, .int (zI 1)), (0, .ref y), (1, .int (zI row)), (2, .int (zI c)), (3, .int (zI q)), (4, .int (zI ((u 0) - q)))] dX6_doesFit_107 rfl (by decide) rfl ?_
                refine y_goto C 31 dX6_doesFit_110 (by decide) ?_
                refine y_lsub C [3, 4, 5, 6, 7, 1, 0] (lv' := [(0, .ref y), (1, .int (zI row)), (2, .int (zI c)), (3, .int (zI q)), (4, .int (zI ((u 0) - q))), (5, .int (zI 1)), (6, .int (zI (k + 1)))]) rfl ?_
                exact ih31 1 (k + 1) (by omega) (by rcases hn with ⟨n1, n2⟩ | ⟨n1, n2⟩; (first | (exfalso; omega) | exact Or.inl ⟨by omega, fun j a b d e => by rcases (show j < k ∨ j = k from by omega) with z | z; exact n2 j a z d e; subst z; omega⟩ | exact Or.inr ⟨by omega, fun z => by have := z.2 k (by omega) (by omega) (by omega) (by omega); omega⟩); (first | (exfalso; omega) | exact Or.inr ⟨by omega, n2⟩)) (by omega)
  · refine y_iconst C dX6_doesFit_16 ?_
    refine hret _ _ _ _ dX6_doesFit_17 ⟨rfl, ?_⟩
    show ((0 = 1 ∧ (fitP (u 0) (u 2) (zd u row) c q)) ∨ (0 = 0 ∧ ¬ (fitP (u 0) (u 2) (zd u row) c q)))
    exact Or.inr ⟨rfl, fun z => by have := z.1; omega⟩

set_option maxHeartbeats 4000000 in
set_option maxRecDepth 100000 in
theorem m_X6_nearest {l : Launch} {D : va_G} {cA cB : ClassId} {y ms ma mp mk md me mo : Nat} {np ik ml sp wr tp bt lf rg dp : Int} {u : Int → Int} {row c had : Int} (hrow : 0 ≤ row ∧ row < 8) (hc : 0 ≤ c ∧ c < 32) (hhad : 0 ≤ had ∧ had ≤ 4) (hU : UK u) : MI l yX6_nearest cX6_nearest 8 .int { frames := 3, cells := 0, slots := 0, locals := 70 } D (zT cA cB) [.ref y, .int (zI row), .int (zI c), .int (zI had)] [cO y 6 [.ref ms, .ref ma, .ref mp, .int (zI np), .ref mk, .int (zI ik), .ref md, .int (zI ml), .ref me, .ref mo, .int (zI sp), .int (zI wr), .int (zI tp), .int (zI bt), .int (zI lf), .int (zI rg), .int (zI dp)], cI cA ms 800 u] (fun r w => w = [cO y 6 [.ref ms, .ref ma, .ref mp, .int (zI np), .ref mk, .int (zI ik), .ref md, .int (zI ml), .ref me, .ref mo, .int (zI sp), .int (zI wr), .int (zI tp), .int (zI bt), .int (zI lf), .int (zI rg), .int (zI dp)], cI cA ms 800 u] ∧ ((r = -1 ∧ nearF (fitP (u 0) (u 2) (zd u row) c) had = -4) ∨ (0 ≤ r ∧ r ≤ 4 ∧ nearF (fitP (u 0) (u 2) (zd u row) c) had = r))) := by
  refine MI.of RX6 ⟨rfl, by decide +kernel⟩ (Or.inl rfl) (Nat.le_of_ble_eq_true rfl) (fun h => by cases h) ?_
  intro K C hret
  change K 0 0 _ [(0, .ref y), (1, .int (zI row)), (2, .int (zI c)), (3, .int (zI had))] 0 []
  refine y_iconst C dX6_nearest_0 ?_
  refine y_istore C [(4, .int (zI (-1))), (0, .ref y), (1, .int (zI row)), (2, .int (zI c)), (3, .int (zI had))] dX6_nearest_1 (by decide) rfl ?_
  refine y_iconst C dX6_nearest_3 ?_
  refine y_istore C [(5, .int (zI 5)), (4, .int (zI (-1))), (0, .ref y), (1, .int (zI row)), (2, .int (zI c)), (3, .int (zI had))] dX6_nearest_4 (by decide) rfl ?_
  refine y_iconst C dX6_nearest_6 ?_
  refine y_istore C [(6, .int (zI 0)), (5, .int (zI 5)), (4, .int (zI (-1))), (0, .ref y), (1, .int (zI row)), (2, .int (zI c)), (3, .int (zI had))] dX6_nearest_7 (by decide) rfl ?_
  refine y_lsub C [3, 4, 5, 6, 2, 1, 0] (lv' := [(0, .ref y), (1, .int (zI row)), (2, .int (zI c)), (3, .int (zI had)), (4, .int (zI (-1))), (5, .int (zI 5)), (6, .int (zI 0))]) rfl ?_
  suffices hL9 : ∀ (fu : Nat) (best : Int) (least : Int) (p : Int), (0 ≤ p ∧ p ≤ 5) → ((best = -1 ∧ least = 5 ∧ ∀ q : Int, 0 ≤ q → q < p → ¬ fitP (u 0) (u 2) (zd u row) c q) ∨ (0 ≤ best ∧ best < p ∧ fitP (u 0) (u 2) (zd u row) c best ∧ least = max (best - had) (had - best) ∧ ∀ q : Int, 0 ≤ q → q < p → fitP (u 0) (u 2) (zd u row) c q → least < max (q - had) (had - q) ∨ (least = max (q - had) (had - q) ∧ q ≤ best))) → (5 - p).toNat < fu → K 0 0 [cO y 6 [.ref ms, .ref ma, .ref mp, .int (zI np), .ref mk, .int (zI ik), .ref md, .int (zI ml), .ref me, .ref mo, .int (zI sp), .int (zI wr), .int (zI tp), .int (zI bt), .int (zI lf), .int (zI rg), .int (zI dp)], cI cA ms 800 u] [(0, .ref y), (1, .int (zI row)), (2, .int (zI c)), (3, .int (zI had)), (4, .int (zI best)), (5, .int (zI least)), (6, .int (zI p))] 9 [] from hL9 _ (-1) 5 0 (by omega) (by exact Or.inl ⟨rfl, rfl, fun q a b => by omega⟩) (Nat.lt_succ_self _)
  intro f9
  induction f9 with
  | zero => exact fun _ _ _ _ _ hf => absurd hf (Nat.not_lt_zero _)
  | succ f9 ih9 =>
    intro best least p hp hn hf9
    refine y_iload C 6 dX6_nearest_9 rfl ?_
    refine y_iconst C dX6_nearest_11 ?_
    refine y_icmp_ge C 66 dX6_nearest_12 (by decide) ⟨⟨by omega, by omega⟩, ⟨by omega, by omega⟩⟩ (fun c_1 => ?_) (fun c_1 => ?_)
    · refine y_iload C 4 dX6_nearest_66 rfl ?_
      refine hret _ _ _ _ dX6_nearest_68 ⟨rfl, ?_⟩
      show ((best = -1 ∧ nearF (fitP (u 0) (u 2) (zd u row) c) had = -4) ∨ (0 ≤ best ∧ best ≤ 4 ∧ nearF (fitP (u 0) (u 2) (zd u row) c) had = best))
      obtain rfl : p = 5 := by omega
      rcases hn with ⟨n1, n2, n3⟩ | ⟨n1, n2, n3, n4, n5⟩
      · exact Or.inl ⟨n1, nearF_of (Or.inl ⟨rfl, fun q a b => n3 q a (by omega)⟩)⟩
      · exact Or.inr ⟨n1, by omega, nearF_of (Or.inr ⟨n1, by omega, n3, fun q a b e => by have := n5 q a (by omega) e; omega⟩)⟩
    · refine y_iload C 6 dX6_nearest_15 rfl ?_
      refine y_iload_n C 3 dX6_nearest_17 rfl ?_
      refine y_icmp_ge C 28 dX6_nearest_18 (by decide) ⟨⟨by omega, by omega⟩, ⟨by omega, by omega⟩⟩ (fun c_2 => ?_) (fun c_2 => ?_)
      · refine y_iload C 6 dX6_nearest_28 rfl ?_
        refine y_iload_n C 3 dX6_nearest_30 rfl ?_
        refine y_isub C dX6_nearest_31 ?_
        refine y_istore C [(7, .int (zI (p - had))), (0, .ref y), (1, .int (zI row)), (2, .int (zI c)), (3, .int (zI had)), (4, .int (zI best)), (5, .int (zI least)), (6, .int (zI p))] dX6_nearest_32 (by decide) rfl ?_
        refine y_iload C 0 dX6_nearest_34 rfl ?_
        refine y_iload C 6 dX6_nearest_36 rfl ?_
        refine y_icmp_gt C 60 dX6_nearest_38 (by decide) ⟨⟨by omega, by omega⟩, ⟨by omega, by omega⟩⟩ (fun c_3 => ?_) (fun c_3 => ?_)
        · have hnn : (best = -1 ∧ least = 5 ∧ ∀ q : Int, 0 ≤ q → q < p + 1 → ¬ fitP (u 0) (u 2) (zd u row) c q) ∨ (0 ≤ best ∧ best < p + 1 ∧ fitP (u 0) (u 2) (zd u row) c best ∧ least = max (best - had) (had - best) ∧ ∀ q : Int, 0 ≤ q → q < p + 1 → fitP (u 0) (u 2) (zd u row) c q → least < max (q - had) (had - q) ∨ (least = max (q - had) (had - q) ∧ q ≤ best)) := by
            first
            | (rcases hf with ⟨f1, f2⟩ | ⟨f1, f2⟩
               · first
                 | (exfalso; omega)
                 | (refine Or.inr ⟨by omega, by omega, f2, by omega, fun q a b e => ?_⟩
                    rcases (show q < p ∨ q = p from by omega) with z | z
                    · rcases hn with ⟨n1, n2, n3⟩ | ⟨n1, n2, n3, n4, n5⟩
                      · exact absurd e (n3 q a z)
                      · have := n5 q a z e
                        omega
                    · subst z; omega)
               · first
                 | (exfalso; omega)
                 | (rcases hn with ⟨n1, n2, n3⟩ | ⟨n1, n2, n3, n4, n5⟩
                    · exact Or.inl ⟨n1, n2, fun q a b e => by rcases (show q < p ∨ q = p from by omega) with z | z; exact n3 q a z e; subst z; exact f2 e⟩
                    · exact Or.inr ⟨n1, by omega, n3, n4, fun q a b e => by rcases (show q < p ∨ q = p from by omega) with z | z; exact n5 q a z e; subst z; exact absurd e f2⟩))
            | (rcases hn with ⟨n1, n2, n3⟩ | ⟨n1, n2, n3, n4, n5⟩
               · exfalso; omega
               · exact Or.inr ⟨n1, by omega, n3, n4, fun q a b e => by rcases (show q < p ∨ q = p from by omega) with z | z; exact n5 q a z e; omega⟩)
          refine y_iinc C 7 [(6, .int (zI (p + 1))), (7, .int (zI (p - had))), (0, .ref y), (1, .int (zI row)), (2, .int (zI c)), (3, .int (zI had)), (4, .int (zI best)), (5, .int (zI least))] dX6_nearest_60 rfl (by decide) rfl ?_
          refine y_goto C 9 dX6_nearest_63 (by decide) ?_
          refine y_lsub C [2, 3, 4, 5, 6, 7, 0] (lv' := [(0, .ref y), (1, .int (zI row)), (2, .int (zI c)), (3, .int (zI had)), (4, .int (zI best)), (5, .int (zI least)), (6, .int (zI (p + 1)))]) rfl ?_
          exact ih9 best least (p + 1) (by omega) (by exact hnn) (by omega)
        · refine y_aload_n C 1 dX6_nearest_41 rfl ?_
          refine y_iload_n C 2 dX6_nearest_42 rfl ?_
          refine y_iload_n C 3 dX6_nearest_43 rfl ?_
          refine y_iload C 7 dX6_nearest_44 rfl ?_
          refine y_pcall C (m_X6_doesFit (l := l) (D := D) (cA := cA) (cB := cB) (y := y) (ms := ms) (ma := ma) (mp := mp) (mk := mk) (md := md) (me := me) (mo := mo) (np := np) (ik := ik) (ml := ml) (sp := sp) (wr := wr) (tp := tp) (bt := bt) (lf := lf) (rg := rg) (dp := dp) (u := u) (row := row) (c := c) (q := p) (by first | assumption | omega | exact ⟨by omega, by omega⟩) (by first | assumption | omega | exact ⟨by omega, by omega⟩) (by first | assumption | omega | exact ⟨by omega, by omega⟩) (by first | assumption | omega | exact ⟨by omega, by omega⟩)) lk_X6_59 [0, 1] [] [0, 1] ⟨rfl, rfl, by decide, by decide, by decide⟩ ⟨rfl, by decide⟩ rfl rfl dX6_nearest_46 rfl rfl ⟨by exact Nat.le_of_ble_eq_true rfl, by exact Nat.le_of_ble_eq_true rfl, rfl, rfl, by exact Nat.le_of_ble_eq_true rfl, by exact Nat.le_of_ble_eq_true rfl, by exact Nat.le_of_ble_eq_true rfl⟩ (fun r_5 h_4 => ?_)
          have hf := h_4
          refine y_if_eq C 60 dX6_nearest_49 (by decide) ⟨by omega, by omega⟩ (fun c_6 => ?_) (fun c_6 => ?_)
          · have hnn : (best = -1 ∧ least = 5 ∧ ∀ q : Int, 0 ≤ q → q < p + 1 → ¬ fitP (u 0) (u 2) (zd u row) c q) ∨ (0 ≤ best ∧ best < p + 1 ∧ fitP (u 0) (u 2) (zd u row) c best ∧ least = max (best - had) (had - best) ∧ ∀ q : Int, 0 ≤ q → q < p + 1 → fitP (u 0) (u 2) (zd u row) c q → least < max (q - had) (had - q) ∨ (least = max (q - had) (had - q) ∧ q ≤ best)) := by
              first
              | (rcases hf with ⟨f1, f2⟩ | ⟨f1, f2⟩
                 · first
                   | (exfalso; omega)
                   | (refine Or.inr ⟨by omega, by omega, f2, by omega, fun q a b e => ?_⟩
                      rcases (show q < p ∨ q = p from by omega) with z | z
                      · rcases hn with ⟨n1, n2, n3⟩ | ⟨n1, n2, n3, n4, n5⟩
                        · exact absurd e (n3 q a z)
                        · have := n5 q a z e
                          omega
                      · subst z; omega)
                 · first
                   | (exfalso; omega)
                   | (rcases hn with ⟨n1, n2, n3⟩ | ⟨n1, n2, n3, n4, n5⟩
                      · exact Or.inl ⟨n1, n2, fun q a b e => by rcases (show q < p ∨ q = p from by omega) with z | z; exact n3 q a z e; subst z; exact f2 e⟩
                      · exact Or.inr ⟨n1, by omega, n3, n4, fun q a b e => by rcases (show q < p ∨ q = p from by omega) with z | z; exact n5 q a z e; subst z; exact absurd e f2⟩))
              | (rcases hn with ⟨n1, n2, n3⟩ | ⟨n1, n2, n3, n4, n5⟩
                 · exfalso; omega
                 · exact Or.inr ⟨n1, by omega, n3, n4, fun q a b e => by rcases (show q < p ∨ q = p from by omega) with z | z; exact n5 q a z e; omega⟩)
            refine y_iinc C 7 [(6, .int (zI (p + 1))), (7, .int (zI (p - had))), (0, .ref y), (1, .int (zI row)), (2, .int (zI c)), (3, .int (zI had)), (4, .int (zI best)), (5, .int (zI least))] dX6_nearest_60 rfl (by decide) rfl ?_
            refine y_goto C 9 dX6_nearest_63 (by decide) ?_
            refine y_lsub C [2, 3, 4, 5, 6, 7, 0] (lv' := [(0, .ref y), (1, .int (zI row)), (2, .int (zI c)), (3, .int (zI had)), (4, .int (zI best)), (5, .int (zI least)), (6, .int (zI (p + 1)))]) rfl ?_
            exact ih9 best least (p + 1) (by omega) (by exact hnn) (by omega)
          · refine y_iload C 7 dX6_nearest_52 rfl ?_
            refine y_istore C [(4, .int (zI p)), (7, .int (zI (p - had))), (0, .ref y), (1, .int (zI row)), (2, .int (zI c)), (3, .int (zI had)), (5, .int (zI least)), (6, .int (zI p))] dX6_nearest_54 (by decide) rfl ?_
            refine y_iload C 1 dX6_nearest_56 rfl ?_
            refine y_istore C [(5, .int (zI (p - had))), (4, .int (zI p)), (7, .int (zI (p - had))), (0, .ref y), (1, .int (zI row)), (2, .int (zI c)), (3, .int (zI had)), (6, .int (zI p))] dX6_nearest_58 (by decide) rfl ?_
            have hnn : (p = -1 ∧ (p - had) = 5 ∧ ∀ q : Int, 0 ≤ q → q < p + 1 → ¬ fitP (u 0) (u 2) (zd u row) c q) ∨ (0 ≤ p ∧ p < p + 1 ∧ fitP (u 0) (u 2) (zd u row) c p ∧ (p - had) = max (p - had) (had - p) ∧ ∀ q : Int, 0 ≤ q → q < p + 1 → fitP (u 0) (u 2) (zd u row) c q → (p - had) < max (q - had) (had - q) ∨ ((p - had) = max (q - had) (had - q) ∧ q ≤ p)) := by
              first
              | (rcases hf with ⟨f1, f2⟩ | ⟨f1, f2⟩
                 · first
                   | (exfalso; omega)
                   | (refine Or.inr ⟨by omega, by omega, f2, by omega, fun q a b e => ?_⟩
                      rcases (show q < p ∨ q = p from by omega) with z | z
                      · rcases hn with ⟨n1, n2, n3⟩ | ⟨n1, n2, n3, n4, n5⟩
                        · exact absurd e (n3 q a z)
                        · have := n5 q a z e
                          omega
                      · subst z; omega)
                 · first
                   | (exfalso; omega)
                   | (rcases hn with ⟨n1, n2, n3⟩ | ⟨n1, n2, n3, n4, n5⟩
                      · exact Or.inl ⟨n1, n2, fun q a b e => by rcases (show q < p ∨ q = p from by omega) with z | z; exact n3 q a z e; subst z; exact f2 e⟩
                      · exact Or.inr ⟨n1, by omega, n3, n4, fun q a b e => by rcases (show q < p ∨ q = p from by omega) with z | z; exact n5 q a z e; subst z; exact absurd e f2⟩))
              | (rcases hn with ⟨n1, n2, n3⟩ | ⟨n1, n2, n3, n4, n5⟩
                 · exfalso; omega
                 · exact Or.inr ⟨n1, by omega, n3, n4, fun q a b e => by rcases (show q < p ∨ q = p from by omega) with z | z; exact n5 q a z e; omega⟩)
            refine y_iinc C 7 [(6, .int (zI (p + 1))), (5, .int (zI (p - had))), (4, .int (zI p)), (7, .int (zI (p - had))), (0, .ref y), (1, .int (zI row)), (2, .int (zI c)), (3, .int (zI had))] dX6_nearest_60 rfl (by decide) rfl ?_
            refine y_goto C 9 dX6_nearest_63 (by decide) ?_
            refine y_lsub C [4, 5, 6, 7, 2, 1, 0] (lv' := [(0, .ref y), (1, .int (zI row)), (2, .int (zI c)), (3, .int (zI had)), (4, .int (zI p)), (5, .int (zI (p - had))), (6, .int (zI (p + 1)))]) rfl ?_
            exact ih9 p (p - had) (p + 1) (by omega) (by exact hnn) (by omega)
      · refine y_iload_n C 3 dX6_nearest_21 rfl ?_
        refine y_iload C 6 dX6_nearest_22 rfl ?_
        refine y_isub C dX6_nearest_24 ?_
        refine y_goto C 32 dX6_nearest_25 (by decide) ?_
        refine y_istore C [(7, .int (zI (had - p))), (0, .ref y), (1, .int (zI row)), (2, .int (zI c)), (3, .int (zI had)), (4, .int (zI best)), (5, .int (zI least)), (6, .int (zI p))] dX6_nearest_32 (by decide) rfl ?_
        refine y_iload C 0 dX6_nearest_34 rfl ?_
        refine y_iload C 6 dX6_nearest_36 rfl ?_
        refine y_icmp_gt C 60 dX6_nearest_38 (by decide) ⟨⟨by omega, by omega⟩, ⟨by omega, by omega⟩⟩ (fun c_7 => ?_) (fun c_7 => ?_)
        · have hnn : (best = -1 ∧ least = 5 ∧ ∀ q : Int, 0 ≤ q → q < p + 1 → ¬ fitP (u 0) (u 2) (zd u row) c q) ∨ (0 ≤ best ∧ best < p + 1 ∧ fitP (u 0) (u 2) (zd u row) c best ∧ least = max (best - had) (had - best) ∧ ∀ q : Int, 0 ≤ q → q < p + 1 → fitP (u 0) (u 2) (zd u row) c q → least < max (q - had) (had - q) ∨ (least = max (q - had) (had - q) ∧ q ≤ best)) := by
            first
            | (rcases hf with ⟨f1, f2⟩ | ⟨f1, f2⟩
               · first
                 | (exfalso; omega)
                 | (refine Or.inr ⟨by omega, by omega, f2, by omega, fun q a b e => ?_⟩
                    rcases (show q < p ∨ q = p from by omega) with z | z
                    · rcases hn with ⟨n1, n2, n3⟩ | ⟨n1, n2, n3, n4, n5⟩
                      · exact absurd e (n3 q a z)
                      · have := n5 q a z e
                        omega
                    · subst z; omega)
               · first
                 | (exfalso; omega)
                 | (rcases hn with ⟨n1, n2, n3⟩ | ⟨n1, n2, n3, n4, n5⟩
                    · exact Or.inl ⟨n1, n2, fun q a b e => by rcases (show q < p ∨ q = p from by omega) with z | z; exact n3 q a z e; subst z; exact f2 e⟩
                    · exact Or.inr ⟨n1, by omega, n3, n4, fun q a b e => by rcases (show q < p ∨ q = p from by omega) with z | z; exact n5 q a z e; subst z; exact absurd e f2⟩))
            | (rcases hn with ⟨n1, n2, n3⟩ | ⟨n1, n2, n3, n4, n5⟩
               · exfalso; omega
               · exact Or.inr ⟨n1, by omega, n3, n4, fun q a b e => by rcases (show q < p ∨ q = p from by omega) with z | z; exact n5 q a z e; omega⟩)
          refine y_iinc C 7 [(6, .int (zI (p + 1))), (7, .int (zI (had - p))), (0, .ref y), (1, .int (zI row)), (2, .int (zI c)), (3, .int (zI had)), (4, .int (zI best)), (5, .int (zI least))] dX6_nearest_60 rfl (by decide) rfl ?_
          refine y_goto C 9 dX6_nearest_63 (by decide) ?_
          refine y_lsub C [2, 3, 4, 5, 6, 7, 0] (lv' := [(0, .ref y), (1, .int (zI row)), (2, .int (zI c)), (3, .int (zI had)), (4, .int (zI best)), (5, .int (zI least)), (6, .int (zI (p + 1)))]) rfl ?_
          exact ih9 best least (p + 1) (by omega) (by exact hnn) (by omega)
        · refine y_aload_n C 1 dX6_nearest_41 rfl ?_
          refine y_iload_n C 2 dX6_nearest_42 rfl ?_
          refine y_iload_n C 3 dX6_nearest_43 rfl ?_
          refine y_iload C 7 dX6_nearest_44 rfl ?_
          refine y_pcall C (m_X6_doesFit (l := l) (D := D) (cA := cA) (cB := cB) (y := y) (ms := ms) (ma := ma) (mp := mp) (mk := mk) (md := md) (me := me) (mo := mo) (np := np) (ik := ik) (ml := ml) (sp := sp) (wr := wr) (tp := tp) (bt := bt) (lf := lf) (rg := rg) (dp := dp) (u := u) (row := row) (c := c) (q := p) (by first | assumption | omega | exact ⟨by omega, by omega⟩) (by first | assumption | omega | exact ⟨by omega, by omega⟩) (by first | assumption | omega | exact ⟨by omega, by omega⟩) (by first | assumption | omega | exact ⟨by omega, by omega⟩)) lk_X6_59 [0, 1] [] [0, 1] ⟨rfl, rfl, by decide, by decide, by decide⟩ ⟨rfl, by decide⟩ rfl rfl dX6_nearest_46 rfl rfl ⟨by exact Nat.le_of_ble_eq_true rfl, by exact Nat.le_of_ble_eq_true rfl, rfl, rfl, by exact Nat.le_of_ble_eq_true rfl, by exact Nat.le_of_ble_eq_true rfl, by exact Nat.le_of_ble_eq_true rfl⟩ (fun r_9 h_8 => ?_)
          have hf := h_8
          refine y_if_eq C 60 dX6_nearest_49 (by decide) ⟨by omega, by omega⟩ (fun c_10 => ?_) (fun c_10 => ?_)
          · have hnn : (best = -1 ∧ least = 5 ∧ ∀ q : Int, 0 ≤ q → q < p + 1 → ¬ fitP (u 0) (u 2) (zd u row) c q) ∨ (0 ≤ best ∧ best < p + 1 ∧ fitP (u 0) (u 2) (zd u row) c best ∧ least = max (best - had) (had - best) ∧ ∀ q : Int, 0 ≤ q → q < p + 1 → fitP (u 0) (u 2) (zd u row) c q → least < max (q - had) (had - q) ∨ (least = max (q - had) (had - q) ∧ q ≤ best)) := by
              first
              | (rcases hf with ⟨f1, f2⟩ | ⟨f1, f2⟩
                 · first
                   | (exfalso; omega)
                   | (refine Or.inr ⟨by omega, by omega, f2, by omega, fun q a b e => ?_⟩
                      rcases (show q < p ∨ q = p from by omega) with z | z
                      · rcases hn with ⟨n1, n2, n3⟩ | ⟨n1, n2, n3, n4, n5⟩
                        · exact absurd e (n3 q a z)
                        · have := n5 q a z e
                          omega
                      · subst z; omega)
                 · first
                   | (exfalso; omega)
                   | (rcases hn with ⟨n1, n2, n3⟩ | ⟨n1, n2, n3, n4, n5⟩
                      · exact Or.inl ⟨n1, n2, fun q a b e => by rcases (show q < p ∨ q = p from by omega) with z | z; exact n3 q a z e; subst z; exact f2 e⟩
                      · exact Or.inr ⟨n1, by omega, n3, n4, fun q a b e => by rcases (show q < p ∨ q = p from by omega) with z | z; exact n5 q a z e; subst z; exact absurd e f2⟩))
              | (rcases hn with ⟨n1, n2, n3⟩ | ⟨n1, n2, n3, n4, n5⟩
                 · exfalso; omega
                 · exact Or.inr ⟨n1, by omega, n3, n4, fun q a b e => by rcases (show q < p ∨ q = p from by omega) with z | z; exact n5 q a z e; omega⟩)
            refine y_iinc C 7 [(6, .int (zI (p + 1))), (7, .int (zI (had - p))), (0, .ref y), (1, .int (zI row)), (2, .int (zI c)), (3, .int (zI had)), (4, .int (zI best)), (5, .int (zI least))] dX6_nearest_60 rfl (by decide) rfl ?_
            refine y_goto C 9 dX6_nearest_63 (by decide) ?_
            refine y_lsub C [2, 3, 4, 5, 6, 7, 0] (lv' := [(0, .ref y), (1, .int (zI row)), (2, .int (zI c)), (3, .int (zI had)), (4, .int (zI best)), (5, .int (zI least)), (6, .int (zI (p + 1)))]) rfl ?_
            exact ih9 best least (p + 1) (by omega) (by exact hnn) (by omega)
          · refine y_iload C 7 dX6_nearest_52 rfl ?_
            refine y_istore C [(4, .int (zI p)), (7, .int (zI (had - p))), (0, .ref y), (1, .int (zI row)), (2, .int (zI c)), (3, .int (zI had)), (5, .int (zI least)), (6, .int (zI p))] dX6_nearest_54 (by decide) rfl ?_
            refine y_iload C 1 dX6_nearest_56 rfl ?_
            refine y_istore C [(5, .int (zI (had - p))), (4, .int (zI p)), (7, .int (zI (had - p))), (0, .ref y), (1, .int (zI row)), (2, .int (zI c)), (3, .int (zI had)), (6, .int (zI p))] dX6_nearest_58 (by decide) rfl ?_
            have hnn : (p = -1 ∧ (had - p) = 5 ∧ ∀ q : Int, 0 ≤ q → q < p + 1 → ¬ fitP (u 0) (u 2) (zd u row) c q) ∨ (0 ≤ p ∧ p < p + 1 ∧ fitP (u 0) (u 2) (zd u row) c p ∧ (had - p) = max (p - had) (had - p) ∧ ∀ q : Int, 0 ≤ q → q < p + 1 → fitP (u 0) (u 2) (zd u row) c q → (had - p) < max (q - had) (had - q) ∨ ((had - p) = max (q - had) (had - q) ∧ q ≤ p)) := by
              first
              | (rcases hf with ⟨f1, f2⟩ | ⟨f1, f2⟩
                 · first
                   | (exfalso; omega)
                   | (refine Or.inr ⟨by omega, by omega, f2, by omega, fun q a b e => ?_⟩
                      rcases (show q < p ∨ q = p from by omega) with z | z
                      · rcases hn with ⟨n1, n2, n3⟩ | ⟨n1, n2, n3, n4, n5⟩
                        · exact absurd e (n3 q a z)
                        · have := n5 q a z e
                          omega
                      · subst z; omega)
                 · first
                   | (exfalso; omega)
                   | (rcases hn with ⟨n1, n2, n3⟩ | ⟨n1, n2, n3, n4, n5⟩
                      · exact Or.inl ⟨n1, n2, fun q a b e => by rcases (show q < p ∨ q = p from by omega) with z | z; exact n3 q a z e; subst z; exact f2 e⟩
                      · exact Or.inr ⟨n1, by omega, n3, n4, fun q a b e => by rcases (show q < p ∨ q = p from by omega) with z | z; exact n5 q a z e; subst z; exact absurd e f2⟩))
              | (rcases hn with ⟨n1, n2, n3⟩ | ⟨n1, n2, n3, n4, n5⟩
                 · exfalso; omega
                 · exact Or.inr ⟨n1, by omega, n3, n4, fun q a b e => by rcases (show q < p ∨ q = p from by omega) with z | z; exact n5 q a z e; omega⟩)
            refine y_iinc C 7 [(6, .int (zI (p + 1))), (5, .int (zI (had - p))), (4, .int (zI p)), (7, .int (zI (had - p))), (0, .ref y), (1, .int (zI row)), (2, .int (zI c)), (3, .int (zI had))] dX6_nearest_60 rfl (by decide) rfl ?_
            refine y_goto C 9 dX6_nearest_63 (by decide) ?_
            refine y_lsub C [4, 5, 6, 7, 2, 1, 0] (lv' := [(0, .ref y), (1, .int (zI row)), (2, .int (zI c)), (3, .int (zI had)), (4, .int (zI p)), (5, .int (zI (had - p))), (6, .int (zI (p + 1)))]) rfl ?_
            exact ih9 p (had - p) (p + 1) (by omega) (by exact hnn) (by omega)
