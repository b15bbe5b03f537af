set_option maxHeartbeats 4000000 in
set_option maxRecDepth 100000 in
theorem m_X6_plane {l : Launch} {D : va_G} {cA cB : ClassId} {y ms ma mp mk md me mo : Nat} {np ik ml sp wr tp bt lf rg dp : Int} {u sn : Int → Int} {q wh : Int} (hzq : zR q) (hzwh : zR wh) (hU : UK u) : MI l yX6_plane cX6_plane 10 .int { frames := 5, cells := 0, slots := 0, locals := 121 } D (zT cA cB) [.ref y, .int (zI q), .int (zI wh)] [cO y 6 [.ref ms, .ref ma, .ref mp, .int (zI np), .ref mk, .int (zI ik), .ref md, .int (zI ml), .ref me, .ref mo, .int (zI sp), .int (zI wr), .int (zI tp), .int (zI bt), .int (zI lf), .int (zI rg), .int (zI dp)], cI cA ms 800 u, cI cA me 32 sn] (fun r w => ∃ (sn2 : Int → Int), w = [cO y 6 [.ref ms, .ref ma, .ref mp, .int (zI np), .ref mk, .int (zI ik), .ref md, .int (zI ml), .ref me, .ref mo, .int (zI sp), .int (zI wr), .int (zI tp), .int (zI bt), .int (zI lf), .int (zI rg), .int (zI dp)], cI cA ms 800 u, cI cA me 32 sn2] ∧ (r = ansPlane u q wh)) := by
  refine MI.of RX6 ⟨rfl, by decide +kernel⟩ (Or.inl rfl) (Nat.le_of_ble_eq_true rfl) (fun h => by cases h) ?_
  intro K C hret
  change K 0 0 _ [(0, .ref y), (1, .int (zI q)), (2, .int (zI wh))] 0 []
  have hzq1 := hzq.1
  have hzq2 := hzq.2
  have hzwh1 := hzwh.1
  have hzwh2 := hzwh.2
  refine y_iload_n C 1 dX6_plane_0 rfl ?_
  refine y_iconst C dX6_plane_1 ?_
  refine y_iconst C dX6_plane_2 ?_
  refine y_pcalls C (m_X6_in (l := l) (D := D) (cA := cA) (cB := cB) (vv := q) (lo := 0) (hi := 4) (by first | assumption | exact ⟨by omega, by omega⟩) (by first | assumption | exact ⟨by omega, by omega⟩) (by first | assumption | exact ⟨by omega, by omega⟩)) lk_X6_31 [] [0, 1, 2] [0, 1, 2] ⟨rfl, rfl, by decide, by decide, by decide⟩ ⟨rfl, by decide⟩ dX6_plane_3 rfl rfl ⟨by exact Nat.le_of_ble_eq_true rfl, by exact Nat.le_of_ble_eq_true rfl, rfl, rfl, by exact Nat.le_of_ble_eq_true rfl, by exact Nat.le_of_ble_eq_true rfl, by exact Nat.le_of_ble_eq_true rfl⟩ (fun r_2 h_1 => ?_)
  refine y_if_eq C 18 dX6_plane_6 (by decide) ⟨by omega, by omega⟩ (fun c_3 => ?_) (fun c_3 => ?_)
  · refine y_iconst C dX6_plane_18 ?_
    refine hret _ _ _ _ dX6_plane_19 ⟨sn, rfl, ?_⟩
    show ((-1) = ansPlane u q wh)
    unfold ansPlane; rw [if_neg (by omega)]
  · refine y_iload_n C 2 dX6_plane_9 rfl ?_
    refine y_iconst C dX6_plane_10 ?_
    refine y_iconst C dX6_plane_11 ?_
    refine y_pcalls C (m_X6_in (l := l) (D := D) (cA := cA) (cB := cB) (vv := wh) (lo := 0) (hi := 3) (by first | assumption | exact ⟨by omega, by omega⟩) (by first | assumption | exact ⟨by omega, by omega⟩) (by first | assumption | exact ⟨by omega, by omega⟩)) lk_X6_31 [] [0, 1, 2] [0, 1, 2] ⟨rfl, rfl, by decide, by decide, by decide⟩ ⟨rfl, by decide⟩ dX6_plane_12 rfl rfl ⟨by exact Nat.le_of_ble_eq_true rfl, by exact Nat.le_of_ble_eq_true rfl, rfl, rfl, by exact Nat.le_of_ble_eq_true rfl, by exact Nat.le_of_ble_eq_true rfl, by exact Nat.le_of_ble_eq_true rfl⟩ (fun r_5 h_4 => ?_)
    refine y_if_ne C 20 dX6_plane_15 (by decide) ⟨by omega, by omega⟩ (fun c_6 => ?_) (fun c_6 => ?_)
    · refine y_iconst C dX6_plane_20 ?_
      refine y_istore_n C [(3, .int (zI 0)), (0, .ref y), (1, .int (zI q)), (2, .int (zI wh))] dX6_plane_21 (by decide) rfl ?_
      refine y_iconst C dX6_plane_22 ?_
      refine y_istore C [(4, .int (zI 0)), (3, .int (zI 0)), (0, .ref y), (1, .int (zI q)), (2, .int (zI wh))] dX6_plane_23 (by decide) rfl ?_
      refine y_iconst C dX6_plane_25 ?_
      refine y_istore C [(5, .int (zI 0)), (4, .int (zI 0)), (3, .int (zI 0)), (0, .ref y), (1, .int (zI q)), (2, .int (zI wh))] dX6_plane_26 (by decide) rfl ?_
      refine y_lsub C [3, 4, 5, 2, 1, 0] (lv' := [(0, .ref y), (1, .int (zI q)), (2, .int (zI wh)), (3, .int (zI 0)), (4, .int (zI 0)), (5, .int (zI 0))]) rfl ?_
      suffices hL28 : ∀ (fu : Nat) (n : Int) (m : Int) (row : Int) (s1 : Int → Int), (0 ≤ row ∧ row ≤ 8) → ((wh ≤ 2 → n = sumZ (fun row => numW (zp u row) (seeR u row) q wh) row) ∧ 0 ≤ n ∧ n ≤ 32 * row) → (m = sumZ (fun row => numW (zp u row) (seeR u row) q 3) row ∧ 0 ≤ m ∧ m ≤ row) → (8 - row).toNat < fu → K 0 0 [cO y 6 [.ref ms, .ref ma, .ref mp, .int (zI np), .ref mk, .int (zI ik), .ref md, .int (zI ml), .ref me, .ref mo, .int (zI sp), .int (zI wr), .int (zI tp), .int (zI bt), .int (zI lf), .int (zI rg), .int (zI dp)], cI cA ms 800 u, cI cA me 32 s1] [(0, .ref y), (1, .int (zI q)), (2, .int (zI wh)), (3, .int (zI n)), (4, .int (zI m)), (5, .int (zI row))] 28 [] from hL28 _ 0 0 0 sn (by omega) (by exact ⟨fun _ => rfl, by omega, by omega⟩) (by exact ⟨rfl, by omega, by omega⟩) (Nat.lt_succ_self _)
      intro f28
      induction f28 with
      | zero => exact fun _ _ _ _ _ _ _ hf => absurd hf (Nat.not_lt_zero _)
      | succ f28 ih28 =>
        intro n m row s1 hrow hn hm hf28
        refine y_iload C 5 dX6_plane_28 rfl ?_
        refine y_bipush C dX6_plane_30 (by decide +kernel) ?_
        refine y_icmp_ge C 167 dX6_plane_32 (by decide) ⟨⟨by omega, by omega⟩, ⟨by omega, by omega⟩⟩ (fun c_7 => ?_) (fun c_7 => ?_)
        · refine y_iload_n C 2 dX6_plane_167 rfl ?_
          refine y_iconst C dX6_plane_168 ?_
          refine y_icmp_ne C 177 dX6_plane_169 (by decide) ⟨⟨by omega, by omega⟩, ⟨by omega, by omega⟩⟩ (fun c_8 => ?_) (fun c_8 => ?_)
          · refine y_iload_n C 3 dX6_plane_177 rfl ?_
            refine hret _ _ _ _ dX6_plane_178 ⟨s1, rfl, ?_⟩
            show (n = ansPlane u q wh)
            obtain rfl : row = 8 := by omega
            unfold ansPlane planeZ
            rw [if_pos (by omega)]
            first | (obtain rfl : wh = 3 := (by omega); exact hm.1) | exact hn.1 (by omega)
          · refine y_iload C 4 dX6_plane_172 rfl ?_
            refine y_goto C 178 dX6_plane_174 (by decide) ?_
            refine hret _ _ _ _ dX6_plane_178 ⟨s1, rfl, ?_⟩
            show (m = ansPlane u q wh)
            obtain rfl : row = 8 := by omega
            unfold ansPlane planeZ
            rw [if_pos (by omega)]
            first | (obtain rfl : wh = 3 := (by omega); exact hm.1) | exact hn.1 (by omega)
        · refine y_aload_n C 0 dX6_plane_35 rfl ?_
          refine y_iload C 5 dX6_plane_36 rfl ?_
          refine y_mcallv C (m_X6_looks (l := l) (D := D) (cA := cA) (cB := cB) (y := y) (ms := ms) (ma := ma) (mp := mp) (mk := mk) (md := md) (me := me) (mo := mo) (np := np) (ik := ik) (ml := ml) (sp := sp) (wr := wr) (tp := tp) (bt := bt) (lf := lf) (rg := rg) (dp := dp) (u := u) (sn := s1) (row := row) (by first | assumption | omega | exact ⟨by omega, by omega⟩) (by first | assumption | omega | exact ⟨by omega, by omega⟩)) lk_X6_66 [0, 1, 2] [] ⟨rfl, rfl, by decide, by decide, by decide⟩ (jb := 0) rfl rfl dX6_plane_38 rfl rfl ⟨by exact Nat.le_of_ble_eq_true rfl, by exact Nat.le_of_ble_eq_true rfl, rfl, rfl, by exact Nat.le_of_ble_eq_true rfl, by exact Nat.le_of_ble_eq_true rfl, by exact Nat.le_of_ble_eq_true rfl⟩ (fun w_12 h_9 => ?_)
          obtain ⟨sn2_11, rfl, h_9⟩ := h_9
          refine ⟨[0, 1, 2], [cO y 6 [.ref ms, .ref ma, .ref mp, .int (zI np), .ref mk, .int (zI ik), .ref md, .int (zI ml), .ref me, .ref mo, .int (zI sp), .int (zI wr), .int (zI tp), .int (zI bt), .int (zI lf), .int (zI rg), .int (zI dp)], cI cA ms 800 u, cI cA me 32 sn2_11], ⟨rfl, by decide⟩, ?_⟩
          have hl := h_9
          have hwh0 : 0 ≤ wh := by omega
          refine y_iconst C dX6_plane_41 ?_
          refine y_istore C [(6, .int (zI 0)), (0, .ref y), (1, .int (zI q)), (2, .int (zI wh)), (3, .int (zI n)), (4, .int (zI m)), (5, .int (zI row))] dX6_plane_42 (by decide) rfl ?_
          refine y_iconst C dX6_plane_44 ?_
          refine y_istore C [(7, .int (zI 0)), (6, .int (zI 0)), (0, .ref y), (1, .int (zI q)), (2, .int (zI wh)), (3, .int (zI n)), (4, .int (zI m)), (5, .int (zI row))] dX6_plane_45 (by decide) rfl ?_
          refine y_lsub C [2, 3, 4, 5, 6, 7, 1, 0] (lv' := [(0, .ref y), (1, .int (zI q)), (2, .int (zI wh)), (3, .int (zI n)), (4, .int (zI m)), (5, .int (zI row)), (6, .int (zI 0)), (7, .int (zI 0))]) rfl ?_
          suffices hL47 : ∀ (fu : Nat) (n3 : Int) (is : Int) (c : Int), (0 ≤ c ∧ c ≤ 32) → (n3 = n + zcnt (fun k => (wh = 0 ∧ zp u row k = q) ∨ (¬ wh = 0 ∧ seeR u row k = q ∧ (wh = 1 ∨ zp u row k = q))) c ∧ n ≤ n3 ∧ n3 ≤ n + c) → ((is = 1 ∧ exP (zp u row) q c) ∨ (is = 0 ∧ ¬ exP (zp u row) q c)) → (32 - c).toNat < fu → K 0 0 [cO y 6 [.ref ms, .ref ma, .ref mp, .int (zI np), .ref mk, .int (zI ik), .ref md, .int (zI ml), .ref me, .ref mo, .int (zI sp), .int (zI wr), .int (zI tp), .int (zI bt), .int (zI lf), .int (zI rg), .int (zI dp)], cI cA ms 800 u, cI cA me 32 sn2_11] [(0, .ref y), (1, .int (zI q)), (2, .int (zI wh)), (3, .int (zI n3)), (4, .int (zI m)), (5, .int (zI row)), (6, .int (zI is)), (7, .int (zI c))] 47 [] from hL47 _ n 0 0 (by omega) (by exact ⟨by rw [show zcnt (fun k => (wh = 0 ∧ zp u row k = q) ∨ (¬ wh = 0 ∧ seeR u row k = q ∧ (wh = 1 ∨ zp u row k = q))) 0 = 0 from rfl]; omega, by omega, by omega⟩) (by exact Or.inr ⟨rfl, exP_0 _ _⟩) (Nat.lt_succ_self _)
          intro f47
          induction f47 with
          | zero => exact fun _ _ _ _ _ _ hf => absurd hf (Nat.not_lt_zero _)
          | succ f47 ih47 =>
            intro n3 is c hc hn3 hth hf47
            refine y_iload C 7 dX6_plane_47 rfl ?_
            refine y_bipush C dX6_plane_49 (by decide +kernel) ?_
            refine y_icmp_ge C 146 dX6_plane_51 (by decide) ⟨⟨by omega, by omega⟩, ⟨by omega, by omega⟩⟩ (fun c_13 => ?_) (fun c_13 => ?_)
            · have hc32 : c = 32 := by omega
              rw [hc32] at hn3 hth
              refine y_iload C 4 dX6_plane_146 rfl ?_
              refine y_iload C 6 dX6_plane_148 rfl ?_
              refine y_if_eq C 157 dX6_plane_150 (by decide) ⟨by omega, by omega⟩ (fun c_14 => ?_) (fun c_14 => ?_)
              · refine y_iconst C dX6_plane_157 ?_
                refine y_iadd C dX6_plane_158 ?_
                refine y_istore C [(4, .int (zI (m + 0))), (0, .ref y), (1, .int (zI q)), (2, .int (zI wh)), (3, .int (zI n3)), (5, .int (zI row)), (6, .int (zI is)), (7, .int (zI c))] dX6_plane_159 (by decide) rfl ?_
                refine y_iinc C 5 [(5, .int (zI (row + 1))), (4, .int (zI (m + 0))), (0, .ref y), (1, .int (zI q)), (2, .int (zI wh)), (3, .int (zI n3)), (6, .int (zI is)), (7, .int (zI c))] dX6_plane_161 rfl (by decide) rfl ?_
                refine y_goto C 28 dX6_plane_164 (by decide) ?_
                refine y_lsub C [2, 3, 4, 5, 1, 0] (lv' := [(0, .ref y), (1, .int (zI q)), (2, .int (zI wh)), (3, .int (zI n3)), (4, .int (zI (m + 0))), (5, .int (zI (row + 1)))]) rfl ?_
                exact ih28 n3 (m + 0) (row + 1) sn2_11 (by omega) (by refine ⟨fun z => ?_, by omega, by omega⟩; rw [sumZ_s _ (by omega), ← hn.1 z, hn3.1]; congr 1; exact numW_pw z hwh0) (by refine ⟨?_, by omega, by omega⟩; rw [sumZ_s _ (by omega), ← hm.1]; rcases hth with z | z; (first | (exfalso; omega) | (rw [numW_3t z.2])); (first | (exfalso; omega) | (rw [numW_3f z.2]))) (by omega)
              · refine y_iconst C dX6_plane_153 ?_
                refine y_goto C 158 dX6_plane_154 (by decide) ?_
                refine y_iadd C dX6_plane_158 ?_
                refine y_istore C [(4, .int (zI (m + 1))), (0, .ref y), (1, .int (zI q)), (2, .int (zI wh)), (3, .int (zI n3)), (5, .int (zI row)), (6, .int (zI is)), (7, .int (zI c))] dX6_plane_159 (by decide) rfl ?_
                refine y_iinc C 5 [(5, .int (zI (row + 1))), (4, .int (zI (m + 1))), (0, .ref y), (1, .int (zI q)), (2, .int (zI wh)), (3, .int (zI n3)), (6, .int (zI is)), (7, .int (zI c))] dX6_plane_161 rfl (by decide) rfl ?_
                refine y_goto C 28 dX6_plane_164 (by decide) ?_
                refine y_lsub C [2, 3, 4, 5, 1, 0] (lv' := [(0, .ref y), (1, .int (zI q)), (2, .int (zI wh)), (3, .int (zI n3)), (4, .int (zI (m + 1))), (5, .int (zI (row + 1)))]) rfl ?_
                exact ih28 n3 (m + 1) (row + 1) sn2_11 (by omega) (by refine ⟨fun z => ?_, by omega, by omega⟩; rw [sumZ_s _ (by omega), ← hn.1 z, hn3.1]; congr 1; exact numW_pw z hwh0) (by refine ⟨?_, by omega, by omega⟩; rw [sumZ_s _ (by omega), ← hm.1]; rcases hth with z | z; (first | (exfalso; omega) | (rw [numW_3t z.2])); (first | (exfalso; omega) | (rw [numW_3f z.2]))) (by omega)
            · refine y_aload_n C 0 dX6_plane_54 rfl ?_
              refine y_iload C 5 dX6_plane_55 rfl ?_
              refine y_iload C 7 dX6_plane_57 rfl ?_
              refine y_pcall C (m_X6_planeOf (l := l) (D := D) (cA := cA) (cB := cB) (y := y) (ms := ms) (ma := ma) (mp := mp) (mk := mk) (md := md) (me := me) (mo := mo) (np := np) (ik := ik) (ml := ml) (sp := sp) (wr := wr) (tp := tp) (bt := bt) (lf := lf) (rg := rg) (dp := dp) (u := u) (row := row) (c := c) (by first | assumption | omega | exact ⟨by omega, by omega⟩) (by first | assumption | omega | exact ⟨by omega, by omega⟩) (by first | assumption | omega | exact ⟨by omega, by omega⟩)) lk_X6_43 [0, 1] [2] [1, 2, 0] ⟨rfl, rfl, by decide, by decide, by decide⟩ ⟨rfl, by decide⟩ rfl rfl dX6_plane_59 rfl rfl ⟨by exact Nat.le_of_ble_eq_true rfl, by exact Nat.le_of_ble_eq_true rfl, rfl, rfl, by exact Nat.le_of_ble_eq_true rfl, by exact Nat.le_of_ble_eq_true rfl, by exact Nat.le_of_ble_eq_true rfl⟩ (fun r_16 h_15 => ?_)
              have hp := h_15
              have e1 := hl c (by omega) (by omega)
              have e2 := sm1_or (seeR_r u row c)
              refine y_iload_n C 1 dX6_plane_62 rfl ?_
              refine y_icmp_ne C 70 dX6_plane_63 (by decide) ⟨⟨by omega, by omega⟩, ⟨by omega, by omega⟩⟩ (fun c_17 => ?_) (fun c_17 => ?_)
              · refine y_iconst C dX6_plane_70 ?_
                refine y_istore C [(8, .int (zI 0)), (0, .ref y), (1, .int (zI q)), (2, .int (zI wh)), (3, .int (zI n3)), (4, .int (zI m)), (5, .int (zI row)), (6, .int (zI is)), (7, .int (zI c))] dX6_plane_71 (by decide) rfl ?_
                refine y_iload_n C 3 dX6_plane_73 rfl ?_
                refine y_if_ne C 82 dX6_plane_74 (by decide) ⟨by omega, by omega⟩ (fun c_18 => ?_) (fun c_18 => ?_)
                · refine y_aload_n C 1 dX6_plane_82 rfl ?_
                  refine y_get C fg_X6_25 0 dX6_plane_83 rfl rfl ?_
                  refine y_iload C 8 dX6_plane_86 rfl ?_
                  refine y_iald C 2 0 dX6_plane_88 rfl rfl ⟨by omega, by omega, by omega⟩ ?_
                  refine y_iload_n C 2 dX6_plane_89 rfl ?_
                  refine y_icmp_ne C 107 dX6_plane_90 (by decide) ⟨⟨by omega, by omega⟩, ⟨by omega, by omega⟩⟩ (fun c_19 => ?_) (fun c_19 => ?_)
                  · refine y_iconst C dX6_plane_107 ?_
                    refine y_istore C [(9, .int (zI 0)), (8, .int (zI 0)), (0, .ref y), (1, .int (zI q)), (2, .int (zI wh)), (3, .int (zI n3)), (4, .int (zI m)), (5, .int (zI row)), (6, .int (zI is)), (7, .int (zI c))] dX6_plane_108 (by decide) rfl ?_
                    refine y_iload_n C 5 dX6_plane_110 rfl ?_
                    refine y_iload C 0 dX6_plane_111 rfl ?_
                    refine y_if_eq C 120 dX6_plane_113 (by decide) ⟨by omega, by omega⟩ (fun _ => ?_) (fun h => absurd h (by decide))
                    refine y_iconst C dX6_plane_120 ?_
                    refine y_iadd C dX6_plane_121 ?_
                    refine y_istore_n C [(3, .int (zI (n3 + 0))), (9, .int (zI 0)), (8, .int (zI 0)), (0, .ref y), (1, .int (zI q)), (2, .int (zI wh)), (4, .int (zI m)), (5, .int (zI row)), (6, .int (zI is)), (7, .int (zI c))] dX6_plane_122 (by decide) rfl ?_
                    refine y_iload C 8 dX6_plane_123 rfl ?_
                    refine y_if_ne C 133 dX6_plane_125 (by decide) ⟨by omega, by omega⟩ (fun c_21 => ?_) (fun c_21 => ?_)
                    · refine y_iconst C dX6_plane_133 ?_
                      refine y_goto C 138 dX6_plane_134 (by decide) ?_
                      refine y_istore C [(6, .int (zI 1)), (3, .int (zI (n3 + 0))), (9, .int (zI 0)), (8, .int (zI 0)), (0, .ref y), (1, .int (zI q)), (2, .int (zI wh)), (4, .int (zI m)), (5, .int (zI row)), (7, .int (zI c))] dX6_plane_138 (by decide) rfl ?_
                      refine y_iinc C 9 [(7, .int (zI (c + 1))), (6, .int (zI 1)), (3, .int (zI (n3 + 0))), (9, .int (zI 0)), (8, .int (zI 0)), (0, .ref y), (1, .int (zI q)), (2, .int (zI wh)), (4, .int (zI m)), (5, .int (zI row))] dX6_plane_140 rfl (by decide) rfl ?_
                      refine y_goto C 47 dX6_plane_143 (by decide) ?_
                      refine y_lsub C [5, 6, 7, 2, 8, 9, 1, 0] (lv' := [(0, .ref y), (1, .int (zI q)), (2, .int (zI wh)), (3, .int (zI (n3 + 0))), (4, .int (zI m)), (5, .int (zI row)), (6, .int (zI 1)), (7, .int (zI (c + 1)))]) rfl ?_
                      exact ih47 (n3 + 0) 1 (c + 1) (by omega) (by refine ⟨?_, by omega, by omega⟩; rw [zcnt_s _ (show 0 ≤ c by omega)]; first | (rw [bI_t (P := (fun k => (wh = 0 ∧ zp u row k = q) ∨ (¬ wh = 0 ∧ seeR u row k = q ∧ (wh = 1 ∨ zp u row k = q))) c) (by show (wh = 0 ∧ zp u row c = q) ∨ (¬ wh = 0 ∧ seeR u row c = q ∧ (wh = 1 ∨ zp u row c = q)); omega)]; omega) | (rw [bI_f (P := (fun k => (wh = 0 ∧ zp u row k = q) ∨ (¬ wh = 0 ∧ seeR u row k = q ∧ (wh = 1 ∨ zp u row k = q))) c) (by show ¬ ((wh = 0 ∧ zp u row c = q) ∨ (¬ wh = 0 ∧ seeR u row c = q ∧ (wh = 1 ∨ zp u row c = q))); omega)]; omega)) (by rcases hth with ⟨i1, i2⟩ | ⟨i1, i2⟩; (first | (exfalso; omega) | exact Or.inl ⟨by omega, exP_i i2⟩); (first | (exfalso; omega) | exact Or.inl ⟨by omega, exP_t (by omega) (by omega)⟩ | exact Or.inr ⟨by omega, exP_f i2 (by omega)⟩)) (by omega)
                    · refine y_iload C 2 dX6_plane_128 rfl ?_
                      refine y_if_eq C 137 dX6_plane_130 (by decide) ⟨by omega, by omega⟩ (fun _ => ?_) (fun h => absurd h (by decide))
                      refine y_iconst C dX6_plane_137 ?_
                      refine y_istore C [(6, .int (zI 0)), (3, .int (zI (n3 + 0))), (9, .int (zI 0)), (8, .int (zI 0)), (0, .ref y), (1, .int (zI q)), (2, .int (zI wh)), (4, .int (zI m)), (5, .int (zI row)), (7, .int (zI c))] dX6_plane_138 (by decide) rfl ?_
                      refine y_iinc C 9 [(7, .int (zI (c + 1))), (6, .int (zI 0)), (3, .int (zI (n3 + 0))), (9, .int (zI 0)), (8, .int (zI 0)), (0, .ref y), (1, .int (zI q)), (2, .int (zI wh)), (4, .int (zI m)), (5, .int (zI row))] dX6_plane_140 rfl (by decide) rfl ?_
                      refine y_goto C 47 dX6_plane_143 (by decide) ?_
                      refine y_lsub C [5, 6, 7, 2, 8, 9, 1, 0] (lv' := [(0, .ref y), (1, .int (zI q)), (2, .int (zI wh)), (3, .int (zI (n3 + 0))), (4, .int (zI m)), (5, .int (zI row)), (6, .int (zI 0)), (7, .int (zI (c + 1)))]) rfl ?_
                      exact ih47 (n3 + 0) 0 (c + 1) (by omega) (by refine ⟨?_, by omega, by omega⟩; rw [zcnt_s _ (show 0 ≤ c by omega)]; first | (rw [bI_t (P := (fun k => (wh = 0 ∧ zp u row k = q) ∨ (¬ wh = 0 ∧ seeR u row k = q ∧ (wh = 1 ∨ zp u row k = q))) c) (by show (wh = 0 ∧ zp u row c = q) ∨ (¬ wh = 0 ∧ seeR u row c = q ∧ (wh = 1 ∨ zp u row c = q)); omega)]; omega) | (rw [bI_f (P := (fun k => (wh = 0 ∧ zp u row k = q) ∨ (¬ wh = 0 ∧ seeR u row k = q ∧ (wh = 1 ∨ zp u row k = q))) c) (by show ¬ ((wh = 0 ∧ zp u row c = q) ∨ (¬ wh = 0 ∧ seeR u row c = q ∧ (wh = 1 ∨ zp u row c = q))); omega)]; omega)) (by rcases hth with ⟨i1, i2⟩ | ⟨i1, i2⟩; (first | (exfalso; omega) | exact Or.inl ⟨by omega, exP_i i2⟩); (first | (exfalso; omega) | exact Or.inl ⟨by omega, exP_t (by omega) (by omega)⟩ | exact Or.inr ⟨by omega, exP_f i2 (by omega)⟩)) (by omega)
                  · refine y_iload_n C 3 dX6_plane_93 rfl ?_
                    refine y_iconst C dX6_plane_94 ?_
                    refine y_icmp_eq C 103 dX6_plane_95 (by decide) ⟨⟨by omega, by omega⟩, ⟨by omega, by omega⟩⟩ (fun c_23 => ?_) (fun c_23 => ?_)
                    · refine y_iconst C dX6_plane_103 ?_
                      refine y_goto C 108 dX6_plane_104 (by decide) ?_
                      refine y_istore C [(9, .int (zI 1)), (8, .int (zI 0)), (0, .ref y), (1, .int (zI q)), (2, .int (zI wh)), (3, .int (zI n3)), (4, .int (zI m)), (5, .int (zI row)), (6, .int (zI is)), (7, .int (zI c))] dX6_plane_108 (by decide) rfl ?_
                      refine y_iload_n C 5 dX6_plane_110 rfl ?_
                      refine y_iload C 0 dX6_plane_111 rfl ?_
                      refine y_if_eq C 120 dX6_plane_113 (by decide) ⟨by omega, by omega⟩ (fun h => absurd h (by decide)) (fun _ => ?_)
                      refine y_iconst C dX6_plane_116 ?_
                      refine y_goto C 121 dX6_plane_117 (by decide) ?_
                      refine y_iadd C dX6_plane_121 ?_
                      refine y_istore_n C [(3, .int (zI (n3 + 1))), (9, .int (zI 1)), (8, .int (zI 0)), (0, .ref y), (1, .int (zI q)), (2, .int (zI wh)), (4, .int (zI m)), (5, .int (zI row)), (6, .int (zI is)), (7, .int (zI c))] dX6_plane_122 (by decide) rfl ?_
                      refine y_iload C 8 dX6_plane_123 rfl ?_
                      refine y_if_ne C 133 dX6_plane_125 (by decide) ⟨by omega, by omega⟩ (fun c_25 => ?_) (fun c_25 => ?_)
                      · refine y_iconst C dX6_plane_133 ?_
                        refine y_goto C 138 dX6_plane_134 (by decide) ?_
                        refine y_istore C [(6, .int (zI 1)), (3, .int (zI (n3 + 1))), (9, .int (zI 1)), (8, .int (zI 0)), (0, .ref y), (1, .int (zI q)), (2, .int (zI wh)), (4, .int (zI m)), (5, .int (zI row)), (7, .int (zI c))] dX6_plane_138 (by decide) rfl ?_
                        refine y_iinc C 9 [(7, .int (zI (c + 1))), (6, .int (zI 1)), (3, .int (zI (n3 + 1))), (9, .int (zI 1)), (8, .int (zI 0)), (0, .ref y), (1, .int (zI q)), (2, .int (zI wh)), (4, .int (zI m)), (5, .int (zI row))] dX6_plane_140 rfl (by decide) rfl ?_
                        refine y_goto C 47 dX6_plane_143 (by decide) ?_
                        refine y_lsub C [5, 6, 7, 2, 8, 9, 1, 0] (lv' := [(0, .ref y), (1, .int (zI q)), (2, .int (zI wh)), (3, .int (zI (n3 + 1))), (4, .int (zI m)), (5, .int (zI row)), (6, .int (zI 1)), (7, .int (zI (c + 1)))]) rfl ?_
                        exact ih47 (n3 + 1) 1 (c + 1) (by omega) (by refine ⟨?_, by omega, by omega⟩; rw [zcnt_s _ (show 0 ≤ c by omega)]; first | (rw [bI_t (P := (fun k => (wh = 0 ∧ zp u row k = q) ∨ (¬ wh = 0 ∧ seeR u row k = q ∧ (wh = 1 ∨ zp u row k = q))) c) (by show (wh = 0 ∧ zp u row c = q) ∨ (¬ wh = 0 ∧ seeR u row c = q ∧ (wh = 1 ∨ zp u row c = q)); omega)]; omega) | (rw [bI_f (P := (fun k => (wh = 0 ∧ zp u row k = q) ∨ (¬ wh = 0 ∧ seeR u row k = q ∧ (wh = 1 ∨ zp u row k = q))) c) (by show ¬ ((wh = 0 ∧ zp u row c = q) ∨ (¬ wh = 0 ∧ seeR u row c = q ∧ (wh = 1 ∨ zp u row c = q))); omega)]; omega)) (by rcases hth with ⟨i1, i2⟩ | ⟨i1, i2⟩; (first | (exfalso; omega) | exact Or.inl ⟨by omega, exP_i i2⟩); (first | (exfalso; omega) | exact Or.inl ⟨by omega, exP_t (by omega) (by omega)⟩ | exact Or.inr ⟨by omega, exP_f i2 (by omega)⟩)) (by omega)
                      · refine y_iload C 2 dX6_plane_128 rfl ?_
                        refine y_if_eq C 137 dX6_plane_130 (by decide) ⟨by omega, by omega⟩ (fun _ => ?_) (fun h => absurd h (by decide))
                        refine y_iconst C dX6_plane_137 ?_
                        refine y_istore C [(6, .int (zI 0)), (3, .int (zI (n3 + 1))), (9, .int (zI 1)), (8, .int (zI 0)), (0, .ref y), (1, .int (zI q)), (2, .int (zI wh)), (4, .int (zI m)), (5, .int (zI row)), (7, .int (zI c))] dX6_plane_138 (by decide) rfl ?_
                        refine y_iinc C 9 [(7, .int (zI (c + 1))), (6, .int (zI 0)), (3, .int (zI (n3 + 1))), (9, .int (zI 1)), (8, .int (zI 0)), (0, .ref y), (1, .int (zI q)), (2, .int (zI wh)), (4, .int (zI m)), (5, .int (zI row))] dX6_plane_140 rfl (by decide) rfl ?_
                        refine y_goto C 47 dX6_plane_143 (by decide) ?_
                        refine y_lsub C [5, 6, 7, 2, 8, 9, 1, 0] (lv' := [(0, .ref y), (1, .int (zI q)), (2, .int (zI wh)), (3, .int (zI (n3 + 1))), (4, .int (zI m)), (5, .int (zI row)), (6, .int (zI 0)), (7, .int (zI (c + 1)))]) rfl ?_
                        exact ih47 (n3 + 1) 0 (c + 1) (by omega) (by refine ⟨?_, by omega, by omega⟩; rw [zcnt_s _ (show 0 ≤ c by omega)]; first | (rw [bI_t (P := (fun k => (wh = 0 ∧ zp u row k = q) ∨ (¬ wh = 0 ∧ seeR u row k = q ∧ (wh = 1 ∨ zp u row k = q))) c) (by show (wh = 0 ∧ zp u row c = q) ∨ (¬ wh = 0 ∧ seeR u row c = q ∧ (wh = 1 ∨ zp u row c = q)); omega)]; omega) | (rw [bI_f (P := (fun k => (wh = 0 ∧ zp u row k = q) ∨ (¬ wh = 0 ∧ seeR u row k = q ∧ (wh = 1 ∨ zp u row k = q))) c) (by show ¬ ((wh = 0 ∧ zp u row c = q) ∨ (¬ wh = 0 ∧ seeR u row c = q ∧ (wh = 1 ∨ zp u row c = q))); omega)]; omega)) (by rcases hth with ⟨i1, i2⟩ | ⟨i1, i2⟩; (first | (exfalso; omega) | exact Or.inl ⟨by omega, exP_i i2⟩); (first | (exfalso; omega) | exact Or.inl ⟨by omega, exP_t (by omega) (by omega)⟩ | exact Or.inr ⟨by omega, exP_f i2 (by omega)⟩)) (by omega)
                    · refine y_iload C 0 dX6_plane_98 rfl ?_
                      refine y_if_eq C 107 dX6_plane_100 (by decide) ⟨by omega, by omega⟩ (fun _ => ?_) (fun h => absurd h (by decide))
                      refine y_iconst C dX6_plane_107 ?_
                      refine y_istore C [(9, .int (zI 0)), (8, .int (zI 0)), (0, .ref y), (1, .int (zI q)), (2, .int (zI wh)), (3, .int (zI n3)), (4, .int (zI m)), (5, .int (zI row)), (6, .int (zI is)), (7, .int (zI c))] dX6_plane_108 (by decide) rfl ?_
                      refine y_iload_n C 5 dX6_plane_110 rfl ?_
                      refine y_iload C 0 dX6_plane_111 rfl ?_
                      refine y_if_eq C 120 dX6_plane_113 (by decide) ⟨by omega, by omega⟩ (fun _ => ?_) (fun h => absurd h (by decide))
                      refine y_iconst C dX6_plane_120 ?_
                      refine y_iadd C dX6_plane_121 ?_
                      refine y_istore_n C [(3, .int (zI (n3 + 0))), (9, .int (zI 0)), (8, .int (zI 0)), (0, .ref y), (1, .int (zI q)), (2, .int (zI wh)), (4, .int (zI m)), (5, .int (zI row)), (6, .int (zI is)), (7, .int (zI c))] dX6_plane_122 (by decide) rfl ?_
                      refine y_iload C 8 dX6_plane_123 rfl ?_
                      refine y_if_ne C 133 dX6_plane_125 (by decide) ⟨by omega, by omega⟩ (fun c_29 => ?_) (fun c_29 => ?_)
                      · refine y_iconst C dX6_plane_133 ?_
                        refine y_goto C 138 dX6_plane_134 (by decide) ?_
                        refine y_istore C [(6, .int (zI 1)), (3, .int (zI (n3 + 0))), (9, .int (zI 0)), (8, .int (zI 0)), (0, .ref y), (1, .int (zI q)), (2, .int (zI wh)), (4, .int (zI m)), (5, .int (zI row)), (7, .int (zI c))] dX6_plane_138 (by decide) rfl ?_
                        refine y_iinc C 9 [(7, .int (zI (c + 1))), (6, .int (zI 1)), (3, .int (zI (n3 + 0))), (9, .int (zI 0)), (8, .int (zI 0)), (0, .ref y), (1, .int (zI q)), (2, .int (zI wh)), (4, .int (zI m)), (5, .int (zI row))] dX6_plane_140 rfl (by decide) rfl ?_
                        refine y_goto C 47 dX6_plane_143 (by decide) ?_
                        refine y_lsub C [5, 6, 7, 2, 8, 9, 1, 0] (lv' := [(0, .ref y), (1, .int (zI q)), (2, .int (zI wh)), (3, .int (zI (n3 + 0))), (4, .int (zI m)), (5, .int (zI row)), (6, .int (zI 1)), (7, .int (zI (c + 1)))]) rfl ?_
                        exact ih47 (n3 + 0) 1 (c + 1) (by omega) (by refine ⟨?_, by omega, by omega⟩; rw [zcnt_s _ (show 0 ≤ c by omega)]; first | (rw [bI_t (P := (fun k => (wh = 0 ∧ zp u row k = q) ∨ (¬ wh = 0 ∧ seeR u row k = q ∧ (wh = 1 ∨ zp u row k = q))) c) (by show (wh = 0 ∧ zp u row c = q) ∨ (¬ wh = 0 ∧ seeR u row c = q ∧ (wh = 1 ∨ zp u row c = q)); omega)]; omega) | (rw [bI_f (P := (fun k => (wh = 0 ∧ zp u row k = q) ∨ (¬ wh = 0 ∧ seeR u row k = q ∧ (wh = 1 ∨ zp u row k = q))) c) (by show ¬ ((wh = 0 ∧ zp u row c = q) ∨ (¬ wh = 0 ∧ seeR u row c = q ∧ (wh = 1 ∨ zp u row c = q))); omega)]; omega)) (by rcases hth with ⟨i1, i2⟩ | ⟨i1, i2⟩; (first | (exfalso; omega) | exact Or.inl ⟨by omega, exP_i i2⟩); (first | (exfalso; omega) | exact Or.inl ⟨by omega, exP_t (by omega) (by omega)⟩ | exact Or.inr ⟨by omega, exP_f i2 (by omega)⟩)) (by omega)
                      · refine y_iload C 2 dX6_plane_128 rfl ?_
                        refine y_if_eq C 137 dX6_plane_130 (by decide) ⟨by omega, by omega⟩ (fun _ => ?_) (fun h => absurd h (by decide))
                        refine y_iconst C dX6_plane_137 ?_
                        refine y_istore C [(6, .int (zI 0)), (3, .int (zI (n3 + 0))), (9, .int (zI 0)), (8, .int (zI 0)), (0, .ref y), (1, .int (zI q)), (2, .int (zI wh)), (4, .int (zI m)), (5, .int (zI row)), (7, .int (zI c))] dX6_plane_138 (by decide) rfl ?_
                        refine y_iinc C 9 [(7, .int (zI (c + 1))), (6, .int (zI 0)), (3, .int (zI (n3 + 0))), (9, .int (zI 0)), (8, .int (zI 0)), (0, .ref y), (1, .int (zI q)), (2, .int (zI wh)), (4, .int (zI m)), (5, .int (zI row))] dX6_plane_140 rfl (by decide) rfl ?_
                        refine y_goto C 47 dX6_plane_143 (by decide) ?_
                        refine y_lsub C [5, 6, 7, 2, 8, 9, 1, 0] (lv' := [(0, .ref y), (1, .int (zI q)), (2, .int (zI wh)), (3, .int (zI (n3 + 0))), (4, .int (zI m)), (5, .int (zI row)), (6, .int (zI 0)), (7, .int (zI (c + 1)))]) rfl ?_
                        exact ih47 (n3 + 0) 0 (c + 1) (by omega) (by refine ⟨?_, by omega, by omega⟩; rw [zcnt_s _ (show 0 ≤ c by omega)]; first | (rw [bI_t (P := (fun k => (wh = 0 ∧ zp u row k = q) ∨ (¬ wh = 0 ∧ seeR u row k = q ∧ (wh = 1 ∨ zp u row k = q))) c) (by show (wh = 0 ∧ zp u row c = q) ∨ (¬ wh = 0 ∧ seeR u row c = q ∧ (wh = 1 ∨ zp u row c = q)); omega)]; omega) | (rw [bI_f (P := (fun k => (wh = 0 ∧ zp u row k = q) ∨ (¬ wh = 0 ∧ seeR u row k = q ∧ (wh = 1 ∨ zp u row k = q))) c) (by show ¬ ((wh = 0 ∧ zp u row c = q) ∨ (¬ wh = 0 ∧ seeR u row c = q ∧ (wh = 1 ∨ zp u row c = q))); omega)]; omega)) (by rcases hth with ⟨i1, i2⟩ | ⟨i1, i2⟩; (first | (exfalso; omega) | exact Or.inl ⟨by omega, exP_i i2⟩); (first | (exfalso; omega) | exact Or.inl ⟨by omega, exP_t (by omega) (by omega)⟩ | exact Or.inr ⟨by omega, exP_f i2 (by omega)⟩)) (by omega)
                · refine y_iload C 0 dX6_plane_77 rfl ?_
                  refine y_goto C 108 dX6_plane_79 (by decide) ?_
                  refine y_istore C [(9, .int (zI 0)), (8, .int (zI 0)), (0, .ref y), (1, .int (zI q)), (2, .int (zI wh)), (3, .int (zI n3)), (4, .int (zI m)), (5, .int (zI row)), (6, .int (zI is)), (7, .int (zI c))] dX6_plane_108 (by decide) rfl ?_
                  refine y_iload_n C 5 dX6_plane_110 rfl ?_
                  refine y_iload C 0 dX6_plane_111 rfl ?_
                  refine y_if_eq C 120 dX6_plane_113 (by decide) ⟨by omega, by omega⟩ (fun _ => ?_) (fun h => absurd h (by decide))
                  refine y_iconst C dX6_plane_120 ?_
                  refine y_iadd C dX6_plane_121 ?_
                  refine y_istore_n C [(3, .int (zI (n3 + 0))), (9, .int (zI 0)), (8, .int (zI 0)), (0, .ref y), (1, .int (zI q)), (2, .int (zI wh)), (4, .int (zI m)), (5, .int (zI row)), (6, .int (zI is)), (7, .int (zI c))] dX6_plane_122 (by decide) rfl ?_
                  refine y_iload C 8 dX6_plane_123 rfl ?_
                  refine y_if_ne C 133 dX6_plane_125 (by decide) ⟨by omega, by omega⟩ (fun c_32 => ?_) (fun c_32 => ?_)
                  · refine y_iconst C dX6_plane_133 ?_
                    refine y_goto C 138 dX6_plane_134 (by decide) ?_
                    refine y_istore C [(6, .int (zI 1)), (3, .int (zI (n3 + 0))), (9, .int (zI 0)), (8, .int (zI 0)), (0, .ref y), (1, .int (zI q)), (2, .int (zI wh)), (4, .int (zI m)), (5, .int (zI row)), (7, .int (zI c))] dX6_plane_138 (by decide) rfl ?_
                    refine y_iinc C 9 [(7, .int (zI (c + 1))), (6, .int (zI 1)), (3, .int (zI (n3 + 0))), (9, .int (zI 0)), (8, .int (zI 0)), (0, .ref y), (1, .int (zI q)), (2, .int (zI wh)), (4, .int (zI m)), (5, .int (zI row))] dX6_plane_140 rfl (by decide) rfl ?_
                    refine y_goto C 47 dX6_plane_143 (by decide) ?_
                    refine y_lsub C [5, 6, 7, 2, 8, 9, 1, 0] (lv' := [(0, .ref y), (1, .int (zI q)), (2, .int (zI wh)), (3, .int (zI (n3 + 0))), (4, .int (zI m)), (5, .int (zI row)), (6, .int (zI 1)), (7, .int (zI (c + 1)))]) rfl ?_
                    exact ih47 (n3 + 0) 1 (c + 1) (by omega) (by refine ⟨?_, by omega, by omega⟩; rw [zcnt_s _ (show 0 ≤ c by omega)]; first | (rw [bI_t (P := (fun k => (wh = 0 ∧ zp u row k = q) ∨ (¬ wh = 0 ∧ seeR u row k = q ∧ (wh = 1 ∨ zp u row k = q))) c) (by show (wh = 0 ∧ zp u row c = q) ∨ (¬ wh = 0 ∧ seeR u row c = q ∧ (wh = 1 ∨ zp u row c = q)); omega)]; omega) | (rw [bI_f (P := (fun k => (wh = 0 ∧ zp u row k = q) ∨ (¬ wh = 0 ∧ seeR u row k = q ∧ (wh = 1 ∨ zp u row k = q))) c) (by show ¬ ((wh = 0 ∧ zp u row c = q) ∨ (¬ wh = 0 ∧ seeR u row c = q ∧ (wh = 1 ∨ zp u row c = q))); omega)]; omega)) (by rcases hth with ⟨i1, i2⟩ | ⟨i1, i2⟩; (first | (exfalso; omega) | exact Or.inl ⟨by omega, exP_i i2⟩); (first | (exfalso; omega) | exact Or.inl ⟨by omega, exP_t (by omega) (by omega)⟩ | exact Or.inr ⟨by omega, exP_f i2 (by omega)⟩)) (by omega)
                  · refine y_iload C 2 dX6_plane_128 rfl ?_
                    refine y_if_eq C 137 dX6_plane_130 (by decide) ⟨by omega, by omega⟩ (fun _ => ?_) (fun h => absurd h (by decide))
                    refine y_iconst C dX6_plane_137 ?_
                    refine y_istore C [(6, .int (zI 0)), (3, .int (zI (n3 + 0))), (9, .int (zI 0)), (8, .int (zI 0)), (0, .ref y), (1, .int (zI q)), (2, .int (zI wh)), (4, .int (zI m)), (5, .int (zI row)), (7, .int (zI c))] dX6_plane_138 (by decide) rfl ?_
                    refine y_iinc C 9 [(7, .int (zI (c + 1))), (6, .int (zI 0)), (3, .int (zI (n3 + 0))), (9, .int (zI 0)), (8, .int (zI 0)), (0, .ref y), (1, .int (zI q)), (2, .int (zI wh)), (4, .int (zI m)), (5, .int (zI row))] dX6_plane_140 rfl (by decide) rfl ?_
                    refine y_goto C 47 dX6_plane_143 (by decide) ?_
                    refine y_lsub C [5, 6, 7, 2, 8, 9, 1, 0] (lv' := [(0, .ref y), (1, .int (zI q)), (2, .int (zI wh)), (3, .int (zI (n3 + 0))), (4, .int (zI m)), (5, .int (zI row)), (6, .int (zI 0)), (7, .int (zI (c + 1)))]) rfl ?_
                    exact ih47 (n3 + 0) 0 (c + 1) (by omega) (by refine ⟨?_, by omega, by omega⟩; rw [zcnt_s _ (show 0 ≤ c by omega)]; first | (rw [bI_t (P := (fun k => (wh = 0 ∧ zp u row k = q) ∨ (¬ wh = 0 ∧ seeR u row k = q ∧ (wh = 1 ∨ zp u row k = q))) c) (by show (wh = 0 ∧ zp u row c = q) ∨ (¬ wh = 0 ∧ seeR u row c = q ∧ (wh = 1 ∨ zp u row c = q)); omega)]; omega) | (rw [bI_f (P := (fun k => (wh = 0 ∧ zp u row k = q) ∨ (¬ wh = 0 ∧ seeR u row k = q ∧ (wh = 1 ∨ zp u row k = q))) c) (by show ¬ ((wh = 0 ∧ zp u row c = q) ∨ (¬ wh = 0 ∧ seeR u row c = q ∧ (wh = 1 ∨ zp u row c = q))); omega)]; omega)) (by rcases hth with ⟨i1, i2⟩ | ⟨i1, i2⟩; (first | (exfalso; omega) | exact Or.inl ⟨by omega, exP_i i2⟩); (first | (exfalso; omega) | exact Or.inl ⟨by omega, exP_t (by omega) (by omega)⟩ | exact Or.inr ⟨by omega, exP_f i2 (by omega)⟩)) (by omega)
              · refine y_iconst C dX6_plane_66 ?_
                refine y_goto C 71 dX6_plane_67 (by decide) ?_
                refine y_istore C [(8, .int (zI 1)), (0, .ref y), (1, .int (zI q)), (2, .int (zI wh)), (3, .int (zI n3)), (4, .int (zI m)), (5, .int (zI row)), (6, .int (zI is)), (7, .int (zI c))] dX6_plane_71 (by decide) rfl ?_
                refine y_iload_n C 3 dX6_plane_73 rfl ?_
                refine y_if_ne C 82 dX6_plane_74 (by decide) ⟨by omega, by omega⟩ (fun c_34 => ?_) (fun c_34 => ?_)
                · refine y_aload_n C 1 dX6_plane_82 rfl ?_
                  refine y_get C fg_X6_25 0 dX6_plane_83 rfl rfl ?_
                  refine y_iload C 8 dX6_plane_86 rfl ?_
                  refine y_iald C 2 0 dX6_plane_88 rfl rfl ⟨by omega, by omega, by omega⟩ ?_
                  refine y_iload_n C 2 dX6_plane_89 rfl ?_
                  refine y_icmp_ne C 107 dX6_plane_90 (by decide) ⟨⟨by omega, by omega⟩, ⟨by omega, by omega⟩⟩ (fun c_35 => ?_) (fun c_35 => ?_)
                  · refine y_iconst C dX6_plane_107 ?_
                    refine y_istore C [(9, .int (zI 0)), (8, .int (zI 1)), (0, .ref y), (1, .int (zI q)), (2, .int (zI wh)), (3, .int (zI n3)), (4, .int (zI m)), (5, .int (zI row)), (6, .int (zI is)), (7, .int (zI c))] dX6_plane_108 (by decide) rfl ?_
                    refine y_iload_n C 5 dX6_plane_110 rfl ?_
                    refine y_iload C 0 dX6_plane_111 rfl ?_
                    refine y_if_eq C 120 dX6_plane_113 (by decide) ⟨by omega, by omega⟩ (fun _ => ?_) (fun h => absurd h (by decide))
                    refine y_iconst C dX6_plane_120 ?_
                    refine y_iadd C dX6_plane_121 ?_
                    refine y_istore_n C [(3, .int (zI (n3 + 0))), (9, .int (zI 0)), (8, .int (zI 1)), (0, .ref y), (1, .int (zI q)), (2, .int (zI wh)), (4, .int (zI m)), (5, .int (zI row)), (6, .int (zI is)), (7, .int (zI c))] dX6_plane_122 (by decide) rfl ?_
                    refine y_iload C 8 dX6_plane_123 rfl ?_
                    refine y_if_ne C 133 dX6_plane_125 (by decide) ⟨by omega, by omega⟩ (fun c_37 => ?_) (fun c_37 => ?_)
                    · refine y_iconst C dX6_plane_133 ?_
                      refine y_goto C 138 dX6_plane_134 (by decide) ?_
                      refine y_istore C [(6, .int (zI 1)), (3, .int (zI (n3 + 0))), (9, .int (zI 0)), (8, .int (zI 1)), (0, .ref y), (1, .int (zI q)), (2, .int (zI wh)), (4, .int (zI m)), (5, .int (zI row)), (7, .int (zI c))] dX6_plane_138 (by decide) rfl ?_
                      refine y_iinc C 9 [(7, .int (zI (c + 1))), (6, .int (zI 1)), (3, .int (zI (n3 + 0))), (9, .int (zI 0)), (8, .int (zI 1)), (0, .ref y), (1, .int (zI q)), (2, .int (zI wh)), (4, .int (zI m)), (5, .int (zI row))] dX6_plane_140 rfl (by decide) rfl ?_
                      refine y_goto C 47 dX6_plane_143 (by decide) ?_
                      refine y_lsub C [5, 6, 7, 2, 8, 9, 1, 0] (lv' := [(0, .ref y), (1, .int (zI q)), (2, .int (zI wh)), (3, .int (zI (n3 + 0))), (4, .int (zI m)), (5, .int (zI row)), (6, .int (zI 1)), (7, .int (zI (c + 1)))]) rfl ?_
                      exact ih47 (n3 + 0) 1 (c + 1) (by omega) (by refine ⟨?_, by omega, by omega⟩; rw [zcnt_s _ (show 0 ≤ c by omega)]; first | (rw [bI_t (P := (fun k => (wh = 0 ∧ zp u row k = q) ∨ (¬ wh = 0 ∧ seeR u row k = q ∧ (wh = 1 ∨ zp u row k = q))) c) (by show (wh = 0 ∧ zp u row c = q) ∨ (¬ wh = 0 ∧ seeR u row c = q ∧ (wh = 1 ∨ zp u row c = q)); omega)]; omega) | (rw [bI_f (P := (fun k => (wh = 0 ∧ zp u row k = q) ∨ (¬ wh = 0 ∧ seeR u row k = q ∧ (wh = 1 ∨ zp u row k = q))) c) (by show ¬ ((wh = 0 ∧ zp u row c = q) ∨ (¬ wh = 0 ∧ seeR u row c = q ∧ (wh = 1 ∨ zp u row c = q))); omega)]; omega)) (by rcases hth with ⟨i1, i2⟩ | ⟨i1, i2⟩; (first | (exfalso; omega) | exact Or.inl ⟨by omega, exP_i i2⟩); (first | (exfalso; omega) | exact Or.inl ⟨by omega, exP_t (by omega) (by omega)⟩ | exact Or.inr ⟨by omega, exP_f i2 (by omega)⟩)) (by omega)
                    · refine y_iload C 2 dX6_plane_128 rfl ?_
                      refine y_if_eq C 137 dX6_plane_130 (by decide) ⟨by omega, by omega⟩ (fun h => absurd h (by decide)) (fun _ => ?_)
                      refine y_iconst C dX6_plane_133 ?_
                      refine y_goto C 138 dX6_plane_134 (by decide) ?_
                      refine y_istore C [(6, .int (zI 1)), (3, .int (zI (n3 + 0))), (9, .int (zI 0)), (8, .int (zI 1)), (0, .ref y), (1, .int (zI q)), (2, .int (zI wh)), (4, .int (zI m)), (5, .int (zI row)), (7, .int (zI c))] dX6_plane_138 (by decide) rfl ?_
                      refine y_iinc C 9 [(7, .int (zI (c + 1))), (6, .int (zI 1)), (3, .int (zI (n3 + 0))), (9, .int (zI 0)), (8, .int (zI 1)), (0, .ref y), (1, .int (zI q)), (2, .int (zI wh)), (4, .int (zI m)), (5, .int (zI row))] dX6_plane_140 rfl (by decide) rfl ?_
                      refine y_goto C 47 dX6_plane_143 (by decide) ?_
                      refine y_lsub C [5, 6, 7, 2, 8, 9, 1, 0] (lv' := [(0, .ref y), (1, .int (zI q)), (2, .int (zI wh)), (3, .int (zI (n3 + 0))), (4, .int (zI m)), (5, .int (zI row)), (6, .int (zI 1)), (7, .int (zI (c + 1)))]) rfl ?_
                      exact ih47 (n3 + 0) 1 (c + 1) (by omega) (by refine ⟨?_, by omega, by omega⟩; rw [zcnt_s _ (show 0 ≤ c by omega)]; first | (rw [bI_t (P := (fun k => (wh = 0 ∧ zp u row k = q) ∨ (¬ wh = 0 ∧ seeR u row k = q ∧ (wh = 1 ∨ zp u row k = q))) c) (by show (wh = 0 ∧ zp u row c = q) ∨ (¬ wh = 0 ∧ seeR u row c = q ∧ (wh = 1 ∨ zp u row c = q)); omega)]; omega) | (rw [bI_f (P := (fun k => (wh = 0 ∧ zp u row k = q) ∨ (¬ wh = 0 ∧ seeR u row k = q ∧ (wh = 1 ∨ zp u row k = q))) c) (by show ¬ ((wh = 0 ∧ zp u row c = q) ∨ (¬ wh = 0 ∧ seeR u row c = q ∧ (wh = 1 ∨ zp u row c = q))); omega)]; omega)) (by rcases hth with ⟨i1, i2⟩ | ⟨i1, i2⟩; (first | (exfalso; omega) | exact Or.inl ⟨by omega, exP_i i2⟩); (first | (exfalso; omega) | exact Or.inl ⟨by omega, exP_t (by omega) (by omega)⟩ | exact Or.inr ⟨by omega, exP_f i2 (by omega)⟩)) (by omega)
                  · refine y_iload_n C 3 dX6_plane_93 rfl ?_
                    refine y_iconst C dX6_plane_94 ?_
                    refine y_icmp_eq C 103 dX6_plane_95 (by decide) ⟨⟨by omega, by omega⟩, ⟨by omega, by omega⟩⟩ (fun c_39 => ?_) (fun c_39 => ?_)
                    · refine y_iconst C dX6_plane_103 ?_
                      refine y_goto C 108 dX6_plane_104 (by decide) ?_
                      refine y_istore C [(9, .int (zI 1)), (8, .int (zI 1)), (0, .ref y), (1, .int (zI q)), (2, .int (zI wh)), (3, .int (zI n3)), (4, .int (zI m)), (5, .int (zI row)), (6, .int (zI is)), (7, .int (zI c))] dX6_plane_108 (by decide) rfl ?_
                      refine y_iload_n C 5 dX6_plane_110 rfl ?_
                      refine y_iload C 0 dX6_plane_111 rfl ?_
                      refine y_if_eq C 120 dX6_plane_113 (by decide) ⟨by omega, by omega⟩ (fun h => absurd h (by decide)) (fun _ => ?_)
                      refine y_iconst C dX6_plane_116 ?_
                      refine y_goto C 121 dX6_plane_117 (by decide) ?_
                      refine y_iadd C dX6_plane_121 ?_
                      refine y_istore_n C [(3, .int (zI (n3 + 1))), (9, .int (zI 1)), (8, .int (zI 1)), (0, .ref y), (1, .int (zI q)), (2, .int (zI wh)), (4, .int (zI m)), (5, .int (zI row)), (6, .int (zI is)), (7, .int (zI c))] dX6_plane_122 (by decide) rfl ?_
                      refine y_iload C 8 dX6_plane_123 rfl ?_
                      refine y_if_ne C 133 dX6_plane_125 (by decide) ⟨by omega, by omega⟩ (fun c_41 => ?_) (fun c_41 => ?_)
                      · refine y_iconst C dX6_plane_133 ?_
                        refine y_goto C 138 dX6_plane_134 (by decide) ?_
                        refine y_istore C [(6, .int (zI 1)), (3, .int (zI (n3 + 1))), (9, .int (zI 1)), (8, .int (zI 1)), (0, .ref y), (1, .int (zI q)), (2, .int (zI wh)), (4, .int (zI m)), (5, .int (zI row)), (7, .int (zI c))] dX6_plane_138 (by decide) rfl ?_
                        refine y_iinc C 9 [(7, .int (zI (c + 1))), (6, .int (zI 1)), (3, .int (zI (n3 + 1))), (9, .int (zI 1)), (8, .int (zI 1)), (0, .ref y), (1, .int (zI q)), (2, .int (zI wh)), (4, .int (zI m)), (5, .int (zI row))] dX6_plane_140 rfl (by decide) rfl ?_
                        refine y_goto C 47 dX6_plane_143 (by decide) ?_
                        refine y_lsub C [5, 6, 7, 2, 8, 9, 1, 0] (lv' := [(0, .ref y), (1, .int (zI q)), (2, .int (zI wh)), (3, .int (zI (n3 + 1))), (4, .int (zI m)), (5, .int (zI row)), (6, .int (zI 1)), (7, .int (zI (c + 1)))]) rfl ?_
                        exact ih47 (n3 + 1) 1 (c + 1) (by omega) (by refine ⟨?_, by omega, by omega⟩; rw [zcnt_s _ (show 0 ≤ c by omega)]; first | (rw [bI_t (P := (fun k => (wh = 0 ∧ zp u row k = q) ∨ (¬ wh = 0 ∧ seeR u row k = q ∧ (wh = 1 ∨ zp u row k = q))) c) (by show (wh = 0 ∧ zp u row c = q) ∨ (¬ wh = 0 ∧ seeR u row c = q ∧ (wh = 1 ∨ zp u row c = q)); omega)]; omega) | (rw [bI_f (P := (fun k => (wh = 0 ∧ zp u row k = q) ∨ (¬ wh = 0 ∧ seeR u row k = q ∧ (wh = 1 ∨ zp u row k = q))) c) (by show ¬ ((wh = 0 ∧ zp u row c = q) ∨ (¬ wh = 0 ∧ seeR u row c = q ∧ (wh = 1 ∨ zp u row c = q))); omega)]; omega)) (by rcases hth with ⟨i1, i2⟩ | ⟨i1, i2⟩; (first | (exfalso; omega) | exact Or.inl ⟨by omega, exP_i i2⟩); (first | (exfalso; omega) | exact Or.inl ⟨by omega, exP_t (by omega) (by omega)⟩ | exact Or.inr ⟨by omega, exP_f i2 (by omega)⟩)) (by omega)
                      · refine y_iload C 2 dX6_plane_128 rfl ?_
                        refine y_if_eq C 137 dX6_plane_130 (by decide) ⟨by omega, by omega⟩ (fun h => absurd h (by decide)) (fun _ => ?_)
                        refine y_iconst C dX6_plane_133 ?_
                        refine y_goto C 138 dX6_plane_134 (by decide) ?_
                        refine y_istore C [(6, .int (zI 1)), (3, .int (zI (n3 + 1))), (9, .int (zI 1)), (8, .int (zI 1)), (0, .ref y), (1, .int (zI q)), (2, .int (zI wh)), (4, .int (zI m)), (5, .int (zI row)), (7, .int (zI c))] dX6_plane_138 (by decide) rfl ?_
                        refine y_iinc C 9 [(7, .int (zI (c + 1))), (6, .int (zI 1)), (3, .int (zI (n3 + 1))), (9, .int (zI 1)), (8, .int (zI 1)), (0, .ref y), (1, .int (zI q)), (2, .int (zI wh)), (4, .int (zI m)), (5, .int (zI row))] dX6_plane_140 rfl (by decide) rfl ?_
                        refine y_goto C 47 dX6_plane_143 (by decide) ?_
                        refine y_lsub C [5, 6, 7, 2, 8, 9, 1, 0] (lv' := [(0, .ref y), (1, .int (zI q)), (2, .int (zI wh)), (3, .int (zI (n3 + 1))), (4, .int (zI m)), (5, .int (zI row)), (6, .int (zI 1)), (7, .int (zI (c + 1)))]) rfl ?_
                        exact ih47 (n3 + 1) 1 (c + 1) (by omega) (by refine ⟨?_, by omega, by omega⟩; rw [zcnt_s _ (show 0 ≤ c by omega)]; first | (rw [bI_t (P := (fun k => (wh = 0 ∧ zp u row k = q) ∨ (¬ wh = 0 ∧ seeR u row k = q ∧ (wh = 1 ∨ zp u row k = q))) c) (by show (wh = 0 ∧ zp u row c = q) ∨ (¬ wh = 0 ∧ seeR u row c = q ∧ (wh = 1 ∨ zp u row c = q)); omega)]; omega) | (rw [bI_f (P := (fun k => (wh = 0 ∧ zp u row k = q) ∨ (¬ wh = 0 ∧ seeR u row k = q ∧ (wh = 1 ∨ zp u row k = q))) c) (by show ¬ ((wh = 0 ∧ zp u row c = q) ∨ (¬ wh = 0 ∧ seeR u row c = q ∧ (wh = 1 ∨ zp u row c = q))); omega)]; omega)) (by rcases hth with ⟨i1, i2⟩ | ⟨i1, i2⟩; (first | (exfalso; omega) | exact Or.inl ⟨by omega, exP_i i2⟩); (first | (exfalso; omega) | exact Or.inl ⟨by omega, exP_t (by omega) (by omega)⟩ | exact Or.inr ⟨by omega, exP_f i2 (by omega)⟩)) (by omega)
                    · refine y_iload C 0 dX6_plane_98 rfl ?_
                      refine y_if_eq C 107 dX6_plane_100 (by decide) ⟨by omega, by omega⟩ (fun h => absurd h (by decide)) (fun _ => ?_)
                      refine y_iconst C dX6_plane_103 ?_
                      refine y_goto C 108 dX6_plane_104 (by decide) ?_
                      refine y_istore C [(9, .int (zI 1)), (8, .int (zI 1)), (0, .ref y), (1, .int (zI q)), (2, .int (zI wh)), (3, .int (zI n3)), (4, .int (zI m)), (5, .int (zI row)), (6, .int (zI is)), (7, .int (zI c))] dX6_plane_108 (by decide) rfl ?_
                      refine y_iload_n C 5 dX6_plane_110 rfl ?_
                      refine y_iload C 0 dX6_plane_111 rfl ?_
                      refine y_if_eq C 120 dX6_plane_113 (by decide) ⟨by omega, by omega⟩ (fun h => absurd h (by decide)) (fun _ => ?_)
                      refine y_iconst C dX6_plane_116 ?_
                      refine y_goto C 121 dX6_plane_117 (by decide) ?_
                      refine y_iadd C dX6_plane_121 ?_
                      refine y_istore_n C [(3, .int (zI (n3 + 1))), (9, .int (zI 1)), (8, .int (zI 1)), (0, .ref y), (1, .int (zI q)), (2, .int (zI wh)), (4, .int (zI m)), (5, .int (zI row)), (6, .int (zI is)), (7, .int (zI c))] dX6_plane_122 (by decide) rfl ?_
                      refine y_iload C 8 dX6_plane_123 rfl ?_
                      refine y_if_ne C 133 dX6_plane_125 (by decide) ⟨by omega, by omega⟩ (fun c_45 => ?_) (fun c_45 => ?_)
                      · refine y_iconst C dX6_plane_133 ?_
                        refine y_goto C 138 dX6_plane_134 (by decide) ?_
                        refine y_istore C [(6, .int (zI 1)), (3, .int (zI (n3 + 1))), (9, .int (zI 1)), (8, .int (zI 1)), (0, .ref y), (1, .int (zI q)), (2, .int (zI wh)), (4, .int (zI m)), (5, .int (zI row)), (7, .int (zI c))] dX6_plane_138 (by decide) rfl ?_
                        refine y_iinc C 9 [(7, .int (zI (c + 1))), (6, .int (zI 1)), (3, .int (zI (n3 + 1))), (9, .int (zI 1)), (8, .int (zI 1)), (0, .ref y), (1, .int (zI q)), (2, .int (zI wh)), (4, .int (zI m)), (5, .int (zI row))] dX6_plane_140 rfl (by decide) rfl ?_
                        refine y_goto C 47 dX6_plane_143 (by decide) ?_
                        refine y_lsub C [5, 6, 7, 2, 8, 9, 1, 0] (lv' := [(0, .ref y), (1, .int (zI q)), (2, .int (zI wh)), (3, .int (zI (n3 + 1))), (4, .int (zI m)), (5, .int (zI row)), (6, .int (zI 1)), (7, .int (zI (c + 1)))]) rfl ?_
                        exact ih47 (n3 + 1) 1 (c + 1) (by omega) (by refine ⟨?_, by omega, by omega⟩; rw [zcnt_s _ (show 0 ≤ c by omega)]; first | (rw [bI_t (P := (fun k => (wh = 0 ∧ zp u row k = q) ∨ (¬ wh = 0 ∧ seeR u row k = q ∧ (wh = 1 ∨ zp u row k = q))) c) (by show (wh = 0 ∧ zp u row c = q) ∨ (¬ wh = 0 ∧ seeR u row c = q ∧ (wh = 1 ∨ zp u row c = q)); omega)]; omega) | (rw [bI_f (P := (fun k => (wh = 0 ∧ zp u row k = q) ∨ (¬ wh = 0 ∧ seeR u row k = q ∧ (wh = 1 ∨ zp u row k = q))) c) (by show ¬ ((wh = 0 ∧ zp u row c = q) ∨ (¬ wh = 0 ∧ seeR u row c = q ∧ (wh = 1 ∨ zp u row c = q))); omega)]; omega)) (by rcases hth with ⟨i1, i2⟩ | ⟨i1, i2⟩; (first | (exfalso; omega) | exact Or.inl ⟨by omega, exP_i i2⟩); (first | (exfalso; omega) | exact Or.inl ⟨by omega, exP_t (by omega) (by omega)⟩ | exact Or.inr ⟨by omega, exP_f i2 (by omega)⟩)) (by omega)
                      · refine y_iload C 2 dX6_plane_128 rfl ?_
                        refine y_if_eq C 137 dX6_plane_130 (by decide) ⟨by omega, by omega⟩ (fun h => absurd h (by decide)) (fun _ => ?_)
                        refine y_iconst C dX6_plane_133 ?_
                        refine y_goto C 138 dX6_plane_134 (by decide) ?_
                        refine y_istore C [(6, .int (zI 1)), (3, .int (zI (n3 + 1))), (9, .int (zI 1)), (8, .int (zI 1)), (0, .ref y), (1, .int (zI q)), (2, .int (zI wh)), (4, .int (zI m)), (5, .int (zI row)), (7, .int (zI c))] dX6_plane_138 (by decide) rfl ?_
                        refine y_iinc C 9 [(7, .int (zI (c + 1))), (6, .int (zI 1)), (3, .int (zI (n3 + 1))), (9, .int (zI 1)), (8, .int (zI 1)), (0, .ref y), (1, .int (zI q)), (2, .int (zI wh)), (4, .int (zI m)), (5, .int (zI row))] dX6_plane_140 rfl (by decide) rfl ?_
                        refine y_goto C 47 dX6_plane_143 (by decide) ?_
                        refine y_lsub C [5, 6, 7, 2, 8, 9, 1, 0] (lv' := [(0, .ref y), (1, .int (zI q)), (2, .int (zI wh)), (3, .int (zI (n3 + 1))), (4, .int (zI m)), (5, .int (zI row)), (6, .int (zI 1)), (7, .int (zI (c + 1)))]) rfl ?_
                        exact ih47 (n3 + 1) 1 (c + 1) (by omega) (by refine ⟨?_, by omega, by omega⟩; rw [zcnt_s _ (show 0 ≤ c by omega)]; first | (rw [bI_t (P := (fun k => (wh = 0 ∧ zp u row k = q) ∨ (¬ wh = 0 ∧ seeR u row k = q ∧ (wh = 1 ∨ zp u row k = q))) c) (by show (wh = 0 ∧ zp u row c = q) ∨ (¬ wh = 0 ∧ seeR u row c = q ∧ (wh = 1 ∨ zp u row c = q)); omega)]; omega) | (rw [bI_f (P := (fun k => (wh = 0 ∧ zp u row k = q) ∨ (¬ wh = 0 ∧ seeR u row k = q ∧ (wh = 1 ∨ zp u row k = q))) c) (by show ¬ ((wh = 0 ∧ zp u row c = q) ∨ (¬ wh = 0 ∧ seeR u row c = q ∧ (wh = 1 ∨ zp u row c = q))); omega)]; omega)) (by rcases hth with ⟨i1, i2⟩ | ⟨i1, i2⟩; (first | (exfalso; omega) | exact Or.inl ⟨by omega, exP_i i2⟩); (first | (exfalso; omega) | exact Or.inl ⟨by omega, exP_t (by omega) (by omega)⟩ | exact Or.inr ⟨by omega, exP_f i2 (by omega)⟩)) (by omega)
                · refine y_iload C 0 dX6_plane_77 rfl ?_
                  refine y_goto C 108 dX6_plane_79 (by decide) ?_
                  refine y_istore C [(9, .int (zI 1)), (8, .int (zI 1)), (0, .ref y), (1, .int (zI q)), (2, .int (zI wh)), (3, .int (zI n3)), (4, .int (zI m)), (5, .int (zI row)), (6, .int (zI is)), (7, .int (zI c))] dX6_plane_108 (by decide) rfl ?_
                  refine y_iload_n C 5 dX6_plane_110 rfl ?_
                  refine y_iload C 0 dX6_plane_111 rfl ?_
                  refine y_if_eq C 120 dX6_plane_113 (by decide) ⟨by omega, by omega⟩ (fun h => absurd h (by decide)) (fun _ => ?_)
                  refine y_iconst C dX6_plane_116 ?_
                  refine y_goto C 121 dX6_plane_117 (by decide) ?_
                  refine y_iadd C dX6_plane_121 ?_
                  refine y_istore_n C [(3, .int (zI (n3 + 1))), (9, .int (zI 1)), (8, .int (zI 1)), (0, .ref y), (1, .int (zI q)), (2, .int (zI wh)), (4, .int (zI m)), (5, .int (zI row)), (6, .int (zI is)), (7, .int (zI c))] dX6_plane_122 (by decide) rfl ?_
                  refine y_iload C 8 dX6_plane_123 rfl ?_
                  refine y_if_ne C 133 dX6_plane_125 (by decide) ⟨by omega, by omega⟩ (fun c_48 => ?_) (fun c_48 => ?_)
                  · refine y_iconst C dX6_plane_133 ?_
                    refine y_goto C 138 dX6_plane_134 (by decide) ?_
                    refine y_istore C [(6, .int (zI 1)), (3, .int (zI (n3 + 1))), (9, .int (zI 1)), (8, .int (zI 1)), (0, .ref y), (1, .int (zI q)), (2, .int (zI wh)), (4, .int (zI m)), (5, .int (zI row)), (7, .int (zI c))] dX6_plane_138 (by decide) rfl ?_
                    refine y_iinc C 9 [(7, .int (zI (c + 1))), (6, .int (zI 1)), (3, .int (zI (n3 + 1))), (9, .int (zI 1)), (8, .int (zI 1)), (0, .ref y), (1, .int (zI q)), (2, .int (zI wh)), (4, .int (zI m)), (5, .int (zI row))] dX6_plane_140 rfl (by decide) rfl ?_
                    refine y_goto C 47 dX6_plane_143 (by decide) ?_
                    refine y_lsub C [5, 6, 7, 2, 8, 9, 1, 0] (lv' := [(0, .ref y), (1, .int (zI q)), (2, .int (zI wh)), (3, .int (zI (n3 + 1))), (4, .int (zI m)), (5, .int (zI row)), (6, .int (zI 1)), (7, .int (zI (c + 1)))]) rfl ?_
                    exact ih47 (n3 + 1) 1 (c + 1) (by omega) (by refine ⟨?_, by omega, by omega⟩; rw [zcnt_s _ (show 0 ≤ c by omega)]; first | (rw [bI_t (P := (fun k => (wh = 0 ∧ zp u row k = q) ∨ (¬ wh = 0 ∧ seeR u row k = q ∧ (wh = 1 ∨ zp u row k = q))) c) (by show (wh = 0 ∧ zp u row c = q) ∨ (¬ wh = 0 ∧ seeR u row c = q ∧ (wh = 1 ∨ zp u row c = q)); omega)]; omega) | (rw [bI_f (P := (fun k => (wh = 0 ∧ zp u row k = q) ∨ (¬ wh = 0 ∧ seeR u row k = q ∧ (wh = 1 ∨ zp u row k = q))) c) (by show ¬ ((wh = 0 ∧ zp u row c = q) ∨ (¬ wh = 0 ∧ seeR u row c = q ∧ (wh = 1 ∨ zp u row c = q))); omega)]; omega)) (by rcases hth with ⟨i1, i2⟩ | ⟨i1, i2⟩; (first | (exfalso; omega) | exact Or.inl ⟨by omega, exP_i i2⟩); (first | (exfalso; omega) | exact Or.inl ⟨by omega, exP_t (by omega) (by omega)⟩ | exact Or.inr ⟨by omega, exP_f i2 (by omega)⟩)) (by omega)
                  · refine y_iload C 2 dX6_plane_128 rfl ?_
                    refine y_if_eq C 137 dX6_plane_130 (by decide) ⟨by omega, by omega⟩ (fun h => absurd h (by decide)) (fun _ => ?_)
                    refine y_iconst C dX6_plane_133 ?_
                    refine y_goto C 138 dX6_plane_134 (by decide) ?_
                    refine y_istore C [(6, .int (zI 1)), (3, .int (zI (n3 + 1))), (9, .int (zI 1)), (8, .int (zI 1)), (0, .ref y), (1, .int (zI q)), (2, .int (zI wh)), (4, .int (zI m)), (5, .int (zI row)), (7, .int (zI c))] dX6_plane_138 (by decide) rfl ?_
                    refine y_iinc C 9 [(7, .int (zI (c + 1))), (6, .int (zI 1)), (3, .int (zI (n3 + 1))), (9, .int (zI 1)), (8, .int (zI 1)), (0, .ref y), (1, .int (zI q)), (2, .int (zI wh)), (4, .int (zI m)), (5, .int (zI row))] dX6_plane_140 rfl (by decide) rfl ?_
                    refine y_goto C 47 dX6_plane_143 (by decide) ?_
                    refine y_lsub C [5, 6, 7, 2, 8, 9, 1, 0] (lv' := [(0, .ref y), (1, .int (zI q)), (2, .int (zI wh)), (3, .int (zI (n3 + 1))), (4, .int (zI m)), (5, .int (zI row)), (6, .int (zI 1)), (7, .int (zI (c + 1)))]) rfl ?_
                    exact ih47 (n3 + 1) 1 (c + 1) (by omega) (by refine ⟨?_, by omega, by omega⟩; rw [zcnt_s _ (show 0 ≤ c by omega)]; first | (rw [bI_t (P := (fun k => (wh = 0 ∧ zp u row k = q) ∨ (¬ wh = 0 ∧ seeR u row k = q ∧ (wh = 1 ∨ zp u row k = q))) c) (by show (wh = 0 ∧ zp u row c = q) ∨ (¬ wh = 0 ∧ seeR u row c = q ∧ (wh = 1 ∨ zp u row c = q)); omega)]; omega) | (rw [bI_f (P := (fun k => (wh = 0 ∧ zp u row k = q) ∨ (¬ wh = 0 ∧ seeR u row k = q ∧ (wh = 1 ∨ zp u row k = q))) c) (by show ¬ ((wh = 0 ∧ zp u row c = q) ∨ (¬ wh = 0 ∧ seeR u row c = q ∧ (wh = 1 ∨ zp u row c = q))); omega)]; omega)) (by rcases hth with ⟨i1, i2⟩ | ⟨i1, i2⟩; (first | (exfalso; omega) | exact Or.inl ⟨by omega, exP_i i2⟩); (first | (exfalso; omega) | exact Or.inl ⟨by omega, exP_t (by omega) (by omega)⟩ | exact Or.inr ⟨by omega, exP_f i2 (by omega)⟩)) (by omega)
    · refine y_iconst C dX6_plane_18 ?_
      refine hret _ _ _ _ dX6_plane_19 ⟨sn, rfl, ?_⟩
      show ((-1) = ansPlane u q wh)
      unfold ansPlane; rw [if_neg (by omega)]

set_option maxHeartbeats 4000000 in
set_option maxRecDepth 100000 in
theorem m_X6_likes {l : Launch} {D : va_G} {cA cB : ClassId} {y ms ma mp mk md me mo : Nat} {np ik ml sp wr tp bt lf rg dp : Int} {u sn so : Int → Int} {row q : Int} (hrow : 0 ≤ row ∧ row < 8) (hq : 0 ≤ q ∧ q < 8) (hU : UK u) : MI l yX6_likes cX6_likes 5 .int { frames := 6, cells := 0, slots := 0, locals := 143 } D (zT cA cB) [.ref y, .int (zI row), .int (zI q)] [cO y 6 [.ref ms, .ref ma, .ref mp, .int (zI np), .ref mk, .int (zI ik), .ref md, .int (zI ml), .ref me, .ref mo, .int (zI sp), .int (zI wr), .int (zI tp), .int (zI bt), .int (zI lf), .int (zI rg), .int (zI dp)], cI cA ms 800 u, cI cA me 32 sn, cI cA mo 32 so] (fun r w => ∃ (sn2 : Int → Int), ∃ (so2 : Int → Int), w = [cO y 6 [.ref ms, .ref ma, .ref mp, .int (zI np), .ref mk, .int (zI ik), .ref md, .int (zI ml), .ref me, .ref mo, .int (zI sp), .int (zI wr), .int (zI tp), .int (zI bt), .int (zI lf), .int (zI rg), .int (zI dp)], cI cA ms 800 u, cI cA me 32 sn2, cI cA mo 32 so2] ∧ (r = zcnt (fun k => seeR u row k = seeR u q k) 32 ∧ 0 ≤ r ∧ r ≤ 32)) := by
  refine MI.of RX6 ⟨rfl, by decide +kernel⟩ (Or.inl rfl) (Nat.le_of_ble_eq_true rfl) (fun h => by cases h) ?_
  intro K C hret
  change K 0 0 _ [(0, .ref y), (1, .int (zI row)), (2, .int (zI q))] 0 []
  refine y_aload_n C 0 dX6_likes_0 rfl ?_
  refine y_iload_n C 2 dX6_likes_1 rfl ?_
  refine y_mcallv C (m_X6_looksBeside (l := l) (D := D) (cA := cA) (cB := cB) (y := y) (ms := ms) (ma := ma) (mp := mp) (mk := mk) (md := md) (me := me) (mo := mo) (np := np) (ik := ik) (ml := ml) (sp := sp) (wr := wr) (tp := tp) (bt := bt) (lf := lf) (rg := rg) (dp := dp) (u := u) (sn := sn) (so := so) (row := q) (by first | assumption | omega | exact ⟨by omega, by omega⟩) (by first | assumption | omega | exact ⟨by omega, by omega⟩)) lk_X6_185 [0, 1, 2, 3] [] ⟨rfl, rfl, by decide, by decide, by decide⟩ (jb := 0) rfl rfl dX6_likes_2 rfl rfl ⟨by exact Nat.le_of_ble_eq_true rfl, by exact Nat.le_of_ble_eq_true rfl, rfl, rfl, by exact Nat.le_of_ble_eq_true rfl, by exact Nat.le_of_ble_eq_true rfl, by exact Nat.le_of_ble_eq_true rfl⟩ (fun w_5 h_1 => ?_)
  obtain ⟨sn2_3, so2_4, rfl, h_1⟩ := h_1
  refine ⟨[0, 1, 2, 3], [cO y 6 [.ref ms, .ref ma, .ref mp, .int (zI np), .ref mk, .int (zI ik), .ref md, .int (zI ml), .ref me, .ref mo, .int (zI sp), .int (zI wr), .int (zI tp), .int (zI bt), .int (zI lf), .int (zI rg), .int (zI dp)], cI cA ms 800 u, cI cA me 32 sn2_3, cI cA mo 32 so2_4], ⟨rfl, by decide⟩, ?_⟩
  have ho := (h_1).2
  refine y_aload_n C 0 dX6_likes_5 rfl ?_
  refine y_iload_n C 1 dX6_likes_6 rfl ?_
  refine y_mcallv C (m_X6_looks (l := l) (D := D) (cA := cA) (cB := cB) (y := y) (ms := ms) (ma := ma) (mp := mp) (mk := mk) (md := md) (me := me) (mo := mo) (np := np) (ik := ik) (ml := ml) (sp := sp) (wr := wr) (tp := tp) (bt := bt) (lf := lf) (rg := rg) (dp := dp) (u := u) (sn := sn2_3) (row := row) (by first | assumption | omega | exact ⟨by omega, by omega⟩) (by first | assumption | omega | exact ⟨by omega, by omega⟩)) lk_X6_66 [0, 1, 2] [3] ⟨rfl, rfl, by decide, by decide, by decide⟩ (jb := 0) rfl rfl dX6_likes_7 rfl rfl ⟨by exact Nat.le_of_ble_eq_true rfl, by exact Nat.le_of_ble_eq_true rfl, rfl, rfl, by exact Nat.le_of_ble_eq_true rfl, by exact Nat.le_of_ble_eq_true rfl, by exact Nat.le_of_ble_eq_true rfl⟩ (fun w_9 h_6 => ?_)
  obtain ⟨sn2_8, rfl, h_6⟩ := h_6
  refine ⟨[1, 2, 3, 0], [cO y 6 [.ref ms, .ref ma, .ref mp, .int (zI np), .ref mk, .int (zI ik), .ref md, .int (zI ml), .ref me, .ref mo, .int (zI sp), .int (zI wr), .int (zI tp), .int (zI bt), .int (zI lf), .int (zI rg), .int (zI dp)], cI cA ms 800 u, cI cA me 32 sn2_8, cI cA mo 32 so2_4], ⟨rfl, by decide⟩, ?_⟩
  have hl := h_6
  refine y_iconst C dX6_likes_10 ?_
  refine y_istore_n C [(3, .int (zI 0)), (0, .ref y), (1, .int (zI row)), (2, .int (zI q))] dX6_likes_11 (by decide) rfl ?_
  refine y_iconst C dX6_likes_12 ?_
  refine y_istore C [(4, .int (zI 0)), (3, .int (zI 0)), (0, .ref y), (1, .int (zI row)), (2, .int (zI q))] dX6_likes_13 (by decide) rfl ?_
  refine y_lsub C [2, 3, 4, 1, 0] (lv' := [(0, .ref y), (1, .int (zI row)), (2, .int (zI q)), (3, .int (zI 0)), (4, .int (zI 0))]) rfl ?_
  suffices hL15 : ∀ (fu : Nat) (n : Int) (c : Int), (0 ≤ c ∧ c ≤ 32) → (n = zcnt (fun k => seeR u row k = seeR u q k) c ∧ 0 ≤ n ∧ n ≤ c) → (32 - c).toNat < fu → K 0 0 [cO y 6 [.ref ms, .ref ma, .ref mp, .int (zI np), .ref mk, .int (zI ik), .ref md, .int (zI ml), .ref me, .ref mo, .int (zI sp), .int (zI wr), .int (zI tp), .int (zI bt), .int (zI lf), .int (zI rg), .int (zI dp)], cI cA ms 800 u, cI cA me 32 sn2_8, cI cA mo 32 so2_4] [(0, .ref y), (1, .int (zI row)), (2, .int (zI q)), (3, .int (zI n)), (4, .int (zI c))] 15 [] from hL15 _ 0 0 (by omega) (by exact ⟨rfl, by omega, by omega⟩) (Nat.lt_succ_self _)
  intro f15
  induction f15 with
  | zero => exact fun _ _ _ _ hf => absurd hf (Nat.not_lt_zero _)
  | succ f15 ih15 =>
    intro n c hc hn hf15
    refine y_iload C 4 dX6_likes_15 rfl ?_
    refine y_bipush C dX6_likes_17 (by decide +kernel) ?_
    refine y_icmp_ge C 53 dX6_likes_19 (by decide) ⟨⟨by omega, by omega⟩, ⟨by omega, by omega⟩⟩ (fun c_10 => ?_) (fun c_10 => ?_)
    · refine y_iload_n C 3 dX6_likes_53 rfl ?_
      refine hret _ _ _ _ dX6_likes_54 ⟨sn2_8, so2_4, rfl, ?_⟩
      show (n = zcnt (fun k => seeR u row k = seeR u q k) 32 ∧ 0 ≤ n ∧ n ≤ 32)
      obtain rfl : c = 32 := by omega
      exact hn
    · have e1 := hl c (by omega) (by omega)
      have e2 := ho c (by omega) (by omega)
      have e3 := sm1_or (seeR_r u row c)
      have e4 := sm1_or (seeR_r u q c)
      refine y_iload_n C 3 dX6_likes_22 rfl ?_
      refine y_aload_n C 0 dX6_likes_23 rfl ?_
      refine y_get C fg_X6_25 0 dX6_likes_24 rfl rfl ?_
      refine y_iload C 4 dX6_likes_27 rfl ?_
      refine y_iald C 2 0 dX6_likes_29 rfl rfl ⟨by omega, by omega, by omega⟩ ?_
      refine y_aload_n C 0 dX6_likes_30 rfl ?_
      refine y_get C fg_X6_28 0 dX6_likes_31 rfl rfl ?_
      refine y_iload C 4 dX6_likes_34 rfl ?_
      refine y_iald C 3 0 dX6_likes_36 rfl rfl ⟨by omega, by omega, by omega⟩ ?_
      refine y_icmp_ne C 44 dX6_likes_37 (by decide) ⟨⟨by omega, by omega⟩, ⟨by omega, by omega⟩⟩ (fun c_11 => ?_) (fun c_11 => ?_)
      · refine y_iconst C dX6_likes_44 ?_
        refine y_iadd C dX6_likes_45 ?_
        refine y_istore_n C [(3, .int (zI (n + 0))), (0, .ref y), (1, .int (zI row)), (2, .int (zI q)), (4, .int (zI c))] dX6_likes_46 (by decide) rfl ?_
        refine y_iinc C 4 [(4, .int (zI (c + 1))), (3, .int (zI (n + 0))), (0, .ref y), (1, .int (zI row)), (2, .int (zI q))] dX6_likes_47 rfl (by decide) rfl ?_
        refine y_goto C 15 dX6_likes_50 (by decide) ?_
        refine y_lsub C [2, 3, 4, 1, 0] (lv' := [(0, .ref y), (1, .int (zI row)), (2, .int (zI q)), (3, .int (zI (n + 0))), (4, .int (zI (c + 1)))]) rfl ?_
        exact ih15 (n + 0) (c + 1) (by omega) (by refine ⟨?_, by omega, by omega⟩; exact zcnt_step (by omega) hn.1 (by show (seeR u row c = seeR u q c ∧ _) ∨ (¬ seeR u row c = seeR u q c ∧ _); omega)) (by omega)
      · refine y_iconst C dX6_likes_40 ?_
        refine y_goto C 45 dX6_likes_41 (by decide) ?_
        refine y_iadd C dX6_likes_45 ?_
        refine y_istore_n C [(3, .int (zI (n + 1))), (0, .ref y), (1, .int (zI row)), (2, .int (zI q)), (4, .int (zI c))] dX6_likes_46 (by decide) rfl ?_
        refine y_iinc C 4 [(4, .int (zI (c + 1))), (3, .int (zI (n + 1))), (0, .ref y), (1, .int (zI row)), (2, .int (zI q))] dX6_likes_47 rfl (by decide) rfl ?_
        refine y_goto C 15 dX6_likes_50 (by decide) ?_
        refine y_lsub C [2, 3, 4, 1, 0] (lv' := [(0, .ref y), (1, .int (zI row)), (2, .int (zI q)), (3, .int (zI (n + 1))), (4, .int (zI (c + 1)))]) rfl ?_
        exact ih15 (n + 1) (c + 1) (by omega) (by refine ⟨?_, by omega, by omega⟩; exact zcnt_step (by omega) hn.1 (by show (seeR u row c = seeR u q c ∧ _) ∨ (¬ seeR u row c = seeR u q c ∧ _); omega)) (by omega)

set_option maxHeartbeats 4000000 in
set_option maxRecDepth 100000 in
theorem m_X6_pictures {l : Launch} {D : va_G} {cA cB : ClassId} {y ms ma mp mk md me mo : Nat} {np ik ml sp wr tp bt lf rg dp : Int} {u sn so : Int → Int} (hU : UK u) : MI l yX6_pictures cX6_pictures 5 .int { frames := 7, cells := 0, slots := 0, locals := 167 } D (zT cA cB) [.ref y] [cO y 6 [.ref ms, .ref ma, .ref mp, .int (zI np), .ref mk, .int (zI ik), .ref md, .int (zI ml), .ref me, .ref mo, .int (zI sp), .int (zI wr), .int (zI tp), .int (zI bt), .int (zI lf), .int (zI rg), .int (zI dp)], cI cA ms 800 u, cI cA me 32 sn, cI cA mo 32 so] (fun r w => ∃ (sn2 : Int → Int), ∃ (so2 : Int → Int), w = [cO y 6 [.ref ms, .ref ma, .ref mp, .int (zI np), .ref mk, .int (zI ik), .ref md, .int (zI ml), .ref me, .ref mo, .int (zI sp), .int (zI wr), .int (zI tp), .int (zI bt), .int (zI lf), .int (zI rg), .int (zI dp)], cI cA ms 800 u, cI cA me 32 sn2, cI cA mo 32 so2] ∧ (r = picsZ u)) := by
  refine MI.of RX6 ⟨rfl, by decide +kernel⟩ (Or.inl rfl) (Nat.le_of_ble_eq_true rfl) (fun h => by cases h) ?_
  intro K C hret
  change K 0 0 _ [(0, .ref y)] 0 []
  refine y_iconst C dX6_pictures_0 ?_
  refine y_istore_n C [(1, .int (zI 0)), (0, .ref y)] dX6_pictures_1 (by decide) rfl ?_
  refine y_iconst C dX6_pictures_2 ?_
  refine y_istore_n C [(2, .int (zI 0)), (1, .int (zI 0)), (0, .ref y)] dX6_pictures_3 (by decide) rfl ?_
  refine y_lsub C [2, 1, 0] (lv' := [(0, .ref y), (1, .int (zI 0)), (2, .int (zI 0))]) rfl ?_
  suffices hL4 : ∀ (fu : Nat) (n : Int) (row : Int) (s1 : Int → Int) (o1 : Int → Int), (0 ≤ row ∧ row ≤ 8) → (n = zcnt (fun r : Int => ∀ q : Int, 0 ≤ q → q < r → ¬ ∀ k : Int, 0 ≤ k → k < 32 → seeR u r k = seeR u q k) row ∧ 0 ≤ n ∧ n ≤ row) → (8 - row).toNat < fu → K 0 0 [cO y 6 [.ref ms, .ref ma, .ref mp, .int (zI np), .ref mk, .int (zI ik), .ref md, .int (zI ml), .ref me, .ref mo, .int (zI sp), .int (zI wr), .int (zI tp), .int (zI bt), .int (zI lf), .int (zI rg), .int (zI dp)], cI cA ms 800 u, cI cA me 32 s1, cI cA mo 32 o1] [(0, .ref y), (1, .int (zI n)), (2, .int (zI row))] 4 [] from hL4 _ 0 0 sn so (by omega) (by exact ⟨rfl, by omega, by omega⟩) (Nat.lt_succ_self _)
  intro f4
  induction f4 with
  | zero => exact fun _ _ _ _ _ _ hf => absurd hf (Nat.not_lt_zero _)
  | succ f4 ih4 =>
    intro n row s1 o1 hrow hn hf4
    refine y_iload_n C 2 dX6_pictures_4 rfl ?_
    refine y_bipush C dX6_pictures_5 (by decide +kernel) ?_
    refine y_icmp_ge C 67 dX6_pictures_7 (by decide) ⟨⟨by omega, by omega⟩, ⟨by omega, by omega⟩⟩ (fun c_1 => ?_) (fun c_1 => ?_)
    · refine y_iload_n C 1 dX6_pictures_67 rfl ?_
      refine hret _ _ _ _ dX6_pictures_68 ⟨s1, o1, rfl, ?_⟩
      show (n = picsZ u)
      obtain rfl : row = 8 := by omega
      exact hn.1
    · refine y_iconst C dX6_pictures_10 ?_
      refine y_istore_n C [(3, .int (zI 1)), (0, .ref y), (1, .int (zI n)), (2, .int (zI row))] dX6_pictures_11 (by decide) rfl ?_
      refine y_iconst C dX6_pictures_12 ?_
      refine y_istore C [(4, .int (zI 0)), (3, .int (zI 1)), (0, .ref y), (1, .int (zI n)), (2, .int (zI row))] dX6_pictures_13 (by decide) rfl ?_
      refine y_lsub C [2, 3, 4, 1, 0] (lv' := [(0, .ref y), (1, .int (zI n)), (2, .int (zI row)), (3, .int (zI 1)), (4, .int (zI 0))]) rfl ?_
      suffices hL15 : ∀ (fu : Nat) (is : Int) (c : Int) (s3 : Int → Int) (o3 : Int → Int), (0 ≤ c ∧ c ≤ row) → ((is = 1 ∧ ∀ q : Int, 0 ≤ q → q < c → ¬ ∀ k : Int, 0 ≤ k → k < 32 → seeR u row k = seeR u q k) ∨ (is = 0 ∧ ¬ ∀ q : Int, 0 ≤ q → q < row → ¬ ∀ k : Int, 0 ≤ k → k < 32 → seeR u row k = seeR u q k)) → (32 - c).toNat < fu → K 0 0 [cO y 6 [.ref ms, .ref ma, .ref mp, .int (zI np), .ref mk, .int (zI ik), .ref md, .int (zI ml), .ref me, .ref mo, .int (zI sp), .int (zI wr), .int (zI tp), .int (zI bt), .int (zI lf), .int (zI rg), .int (zI dp)], cI cA ms 800 u, cI cA me 32 s3, cI cA mo 32 o3] [(0, .ref y), (1, .int (zI n)), (2, .int (zI row)), (3, .int (zI is)), (4, .int (zI c))] 15 [] from hL15 _ 1 0 s1 o1 (by omega) (by exact Or.inl ⟨rfl, fun q a b => by omega⟩) (Nat.lt_succ_self _)
      intro f15
      induction f15 with
      | zero => exact fun _ _ _ _ _ _ hf => absurd hf (Nat.not_lt_zero _)
      | succ f15 ih15 =>
        intro is c s3 o3 hc hi hf15
        refine y_iload C 4 dX6_pictures_15 rfl ?_
        refine y_iload_n C 2 dX6_pictures_17 rfl ?_
        refine y_icmp_ge C 49 dX6_pictures_18 (by decide) ⟨⟨by omega, by omega⟩, ⟨by omega, by omega⟩⟩ (fun c_2 => ?_) (fun c_2 => ?_)
        · refine y_iload_n C 1 dX6_pictures_49 rfl ?_
          refine y_iload_n C 3 dX6_pictures_50 rfl ?_
          refine y_if_eq C 58 dX6_pictures_51 (by decide) ⟨by omega, by omega⟩ (fun c_3 => ?_) (fun c_3 => ?_)
          · refine y_iconst C dX6_pictures_58 ?_
            refine y_iadd C dX6_pictures_59 ?_
            refine y_istore_n C [(1, .int (zI (n + 0))), (0, .ref y), (2, .int (zI row)), (3, .int (zI is)), (4, .int (zI c))] dX6_pictures_60 (by decide) rfl ?_
            refine y_iinc C 2 [(2, .int (zI (row + 1))), (1, .int (zI (n + 0))), (0, .ref y), (3, .int (zI is)), (4, .int (zI c))] dX6_pictures_61 rfl (by decide) rfl ?_
            refine y_goto C 4 dX6_pictures_64 (by decide) ?_
            refine y_lsub C [2, 1, 0] (lv' := [(0, .ref y), (1, .int (zI (n + 0))), (2, .int (zI (row + 1)))]) rfl ?_
            exact ih4 (n + 0) (row + 1) s3 o3 (by omega) (by refine ⟨?_, by omega, by omega⟩; obtain rfl : c = row := (by omega); rcases hi with z | z; (first | (exfalso; omega) | (rw [zcnt_t (by omega) z.2]; omega)); (first | (exfalso; omega) | (rw [zcnt_f (by omega) z.2]; omega))) (by omega)
          · refine y_iconst C dX6_pictures_54 ?_
            refine y_goto C 59 dX6_pictures_55 (by decide) ?_
            refine y_iadd C dX6_pictures_59 ?_
            refine y_istore_n C [(1, .int (zI (n + 1))), (0, .ref y), (2, .int (zI row)), (3, .int (zI is)), (4, .int (zI c))] dX6_pictures_60 (by decide) rfl ?_
            refine y_iinc C 2 [(2, .int (zI (row + 1))), (1, .int (zI (n + 1))), (0, .ref y), (3, .int (zI is)), (4, .int (zI c))] dX6_pictures_61 rfl (by decide) rfl ?_
            refine y_goto C 4 dX6_pictures_64 (by decide) ?_
            refine y_lsub C [2, 1, 0] (lv' := [(0, .ref y), (1, .int (zI (n + 1))), (2, .int (zI (row + 1)))]) rfl ?_
            exact ih4 (n + 1) (row + 1) s3 o3 (by omega) (by refine ⟨?_, by omega, by omega⟩; obtain rfl : c = row := (by omega); rcases hi with z | z; (first | (exfalso; omega) | (rw [zcnt_t (by omega) z.2]; omega)); (first | (exfalso; omega) | (rw [zcnt_f (by omega) z.2]; omega))) (by omega)
        · refine y_iload_n C 3 dX6_pictures_21 rfl ?_
          refine y_if_eq C 41 dX6_pictures_22 (by decide) ⟨by omega, by omega⟩ (fun c_4 => ?_) (fun c_4 => ?_)
          · refine y_iconst C dX6_pictures_41 ?_
            refine y_istore_n C [(3, .int (zI 0)), (0, .ref y), (1, .int (zI n)), (2, .int (zI row)), (4, .int (zI c))] dX6_pictures_42 (by decide) rfl ?_
            refine y_iinc C 4 [(4, .int (zI (c + 1))), (3, .int (zI 0)), (0, .ref y), (1, .int (zI n)), (2, .int (zI row))] dX6_pictures_43 rfl (by decide) rfl ?_
            refine y_goto C 15 dX6_pictures_46 (by decide) ?_
            refine y_lsub C [2, 3, 4, 1, 0] (lv' := [(0, .ref y), (1, .int (zI n)), (2, .int (zI row)), (3, .int (zI 0)), (4, .int (zI (c + 1)))]) rfl ?_
            exact ih15 0 (c + 1) s3 o3 (by omega) (by rcases hi with ⟨i1, i2⟩ | ⟨i1, i2⟩; (first | (exfalso; omega) | exact Or.inl ⟨by omega, fun q a b => by rcases (show q < c ∨ q = c from by omega) with e | e; exact i2 q a e; subst e; exact fun z => by have := hf.mpr z; omega⟩ | exact Or.inr ⟨by omega, fun z => z c (by omega) (by omega) (hf.mp (by omega))⟩); (first | (exfalso; omega) | exact Or.inr ⟨by omega, i2⟩)) (by omega)
          · refine y_aload_n C 0 dX6_pictures_25 rfl ?_
            refine y_iload_n C 2 dX6_pictures_26 rfl ?_
            refine y_iload C 4 dX6_pictures_27 rfl ?_
            refine y_mcalli C (m_X6_likes (l := l) (D := D) (cA := cA) (cB := cB) (y := y) (ms := ms) (ma := ma) (mp := mp) (mk := mk) (md := md) (me := me) (mo := mo) (np := np) (ik := ik) (ml := ml) (sp := sp) (wr := wr) (tp := tp) (bt := bt) (lf := lf) (rg := rg) (dp := dp) (u := u) (sn := s3) (so := o3) (row := row) (q := c) (by first | assumption | omega | exact ⟨by omega, by omega⟩) (by first | assumption | omega | exact ⟨by omega, by omega⟩) (by first | assumption | omega | exact ⟨by omega, by omega⟩)) lk_X6_188 [0, 1, 2, 3] [] ⟨rfl, rfl, by decide, by decide, by decide⟩ (jb := 0) rfl rfl dX6_pictures_29 rfl rfl ⟨by exact Nat.le_of_ble_eq_true rfl, by exact Nat.le_of_ble_eq_true rfl, rfl, rfl, by exact Nat.le_of_ble_eq_true rfl, by exact Nat.le_of_ble_eq_true rfl, by exact Nat.le_of_ble_eq_true rfl⟩ (fun r_6 w_9 h_5 => ?_)
            obtain ⟨sn2_7, so2_8, rfl, h_5⟩ := h_5
            refine ⟨[0, 1, 2, 3], [cO y 6 [.ref ms, .ref ma, .ref mp, .int (zI np), .ref mk, .int (zI ik), .ref md, .int (zI ml), .ref me, .ref mo, .int (zI sp), .int (zI wr), .int (zI tp), .int (zI bt), .int (zI lf), .int (zI rg), .int (zI dp)], cI cA ms 800 u, cI cA me 32 sn2_7, cI cA mo 32 so2_8], ⟨rfl, by decide⟩, ?_⟩
            have hf : r_6 = 32 ↔ ∀ k : Int, 0 ≤ k → k < 32 → seeR u row k = seeR u c k := by rw [(h_5).1]; exact zcnt_full (by omega)
            have hfr := (h_5).2
            refine y_bipush C dX6_pictures_32 (by decide +kernel) ?_
            refine y_icmp_ge C 41 dX6_pictures_34 (by decide) ⟨⟨by omega, by omega⟩, ⟨by omega, by omega⟩⟩ (fun c_10 => ?_) (fun c_10 => ?_)
            · refine y_iconst C dX6_pictures_41 ?_
              refine y_istore_n C [(3, .int (zI 0)), (0, .ref y), (1, .int (zI n)), (2, .int (zI row)), (4, .int (zI c))] dX6_pictures_42 (by decide) rfl ?_
              refine y_iinc C 4 [(4, .int (zI (c + 1))), (3, .int (zI 0)), (0, .ref y), (1, .int (zI n)), (2, .int (zI row))] dX6_pictures_43 rfl (by decide) rfl ?_
              refine y_goto C 15 dX6_pictures_46 (by decide) ?_
              refine y_lsub C [2, 3, 4, 1, 0] (lv' := [(0, .ref y), (1, .int (zI n)), (2, .int (zI row)), (3, .int (zI 0)), (4, .int (zI (c + 1)))]) rfl ?_
              exact ih15 0 (c + 1) sn2_7 so2_8 (by omega) (by rcases hi with ⟨i1, i2⟩ | ⟨i1, i2⟩; (first | (exfalso; omega) | exact Or.inl ⟨by omega, fun q a b => by rcases (show q < c ∨ q = c from by omega) with e | e; exact i2 q a e; subst e; exact fun z => by have := hf.mpr z; omega⟩ | exact Or.inr ⟨by omega, fun z => z c (by omega) (by omega) (hf.mp (by omega))⟩); (first | (exfalso; omega) | exact Or.inr ⟨by omega, i2⟩)) (by omega)
            · refine y_iconst C dX6_pictures_37 ?_
              refine y_goto C 42 dX6_pictures_38 (by decide) ?_
              refine y_istore_n C [(3, .int (zI 1)), (0, .ref y), (1, .int (zI n)), (2, .int (zI row)), (4, .int (zI c))] dX6_pictures_42 (by decide) rfl ?_
              refine y_iinc C 4 [(4, .int (zI (c + 1))), (3, .int (zI 1)), (0, .ref y), (1, .int (zI n)), (2, .int (zI row))] dX6_pictures_43 rfl (by decide) rfl ?_
              refine y_goto C 15 dX6_pictures_46 (by decide) ?_
              refine y_lsub C [2, 3, 4, 1, 0] (lv' := [(0, .ref y), (1, .int (zI n)), (2, .int (zI row)), (3, .int (zI 1)), (4, .int (zI (c + 1)))]) rfl ?_
              exact ih15 1 (c + 1) sn2_7 so2_8 (by omega) (by rcases hi with ⟨i1, i2⟩ | ⟨i1, i2⟩; (first | (exfalso; omega) | exact Or.inl ⟨by omega, fun q a b => by rcases (show q < c ∨ q = c from by omega) with e | e; exact i2 q a e; subst e; exact fun z => by have := hf.mpr z; omega⟩ | exact Or.inr ⟨by omega, fun z => z c (by omega) (by omega) (hf.mp (by omega))⟩); (first | (exfalso; omega) | exact Or.inr ⟨by omega, i2⟩)) (by omega)

set_option maxHeartbeats 4000000 in
set_option maxRecDepth 100000 in
theorem m_X6_overAll {l : Launch} {D : va_G} {cA cB : ClassId} {y ms ma mp mk md me mo : Nat} {np ik ml sp wr tp bt lf rg dp : Int} {u sn : Int → Int} {wh : Int} (hwh : 0 ≤ wh ∧ wh ≤ 7) (hU : UK u) : MI l yX6_overAll cX6_overAll 4 .int { frames := 6, cells := 0, slots := 0, locals := 145 } D (zT cA cB) [.ref y, .int (zI wh)] [cO y 6 [.ref ms, .ref ma, .ref mp, .int (zI np), .ref mk, .int (zI ik), .ref md, .int (zI ml), .ref me, .ref mo, .int (zI sp), .int (zI wr), .int (zI tp), .int (zI bt), .int (zI lf), .int (zI rg), .int (zI dp)], cI cA ms 800 u, cI cA me 32 sn] (fun r w => ∃ (sn2 : Int → Int), w = [cO y 6 [.ref ms, .ref ma, .ref mp, .int (zI np), .ref mk, .int (zI ik), .ref md, .int (zI ml), .ref me, .ref mo, .int (zI sp), .int (zI wr), .int (zI tp), .int (zI bt), .int (zI lf), .int (zI rg), .int (zI dp)], cI cA ms 800 u, cI cA me 32 sn2] ∧ (r = sumZ (fun row => kndR u row wh) 8)) := by
  refine MI.of RX6 ⟨rfl, by decide +kernel⟩ (Or.inl rfl) (Nat.le_of_ble_eq_true rfl) (fun h => by cases h) ?_
  intro K C hret
  change K 0 0 _ [(0, .ref y), (1, .int (zI wh))] 0 []
  refine y_iconst C dX6_overAll_0 ?_
  refine y_istore_n C [(2, .int (zI 0)), (0, .ref y), (1, .int (zI wh))] dX6_overAll_1 (by decide) rfl ?_
  refine y_iconst C dX6_overAll_2 ?_
  refine y_istore_n C [(3, .int (zI 0)), (2, .int (zI 0)), (0, .ref y), (1, .int (zI wh))] dX6_overAll_3 (by decide) rfl ?_
  refine y_lsub C [2, 3, 1, 0] (lv' := [(0, .ref y), (1, .int (zI wh)), (2, .int (zI 0)), (3, .int (zI 0))]) rfl ?_
  suffices hL4 : ∀ (fu : Nat) (n : Int) (row : Int) (s1 : Int → Int), (0 ≤ row ∧ row ≤ 8) → (n = sumZ (fun row => kndR u row wh) row ∧ 0 ≤ n ∧ n ≤ 32 * row) → (8 - row).toNat < fu → K 0 0 [cO y 6 [.ref ms, .ref ma, .ref mp, .int (zI np), .ref mk, .int (zI ik), .ref md, .int (zI ml), .ref me, .ref mo, .int (zI sp), .int (zI wr), .int (zI tp), .int (zI bt), .int (zI lf), .int (zI rg), .int (zI dp)], cI cA ms 800 u, cI cA me 32 s1] [(0, .ref y), (1, .int (zI wh)), (2, .int (zI n)), (3, .int (zI row))] 4 [] from hL4 _ 0 0 sn (by omega) (by exact ⟨rfl, by omega, by omega⟩) (Nat.lt_succ_self _)
  intro f4
  induction f4 with
  | zero => exact fun _ _ _ _ _ hf => absurd hf (Nat.not_lt_zero _)
  | succ f4 ih4 =>
    intro n row s1 hrow hn hf4
    refine y_iload_n C 3 dX6_overAll_4 rfl ?_
    refine y_bipush C dX6_overAll_5 (by decide +kernel) ?_
    refine y_icmp_ge C 25 dX6_overAll_7 (by decide) ⟨⟨by omega, by omega⟩, ⟨by omega, by omega⟩⟩ (fun c_1 => ?_) (fun c_1 => ?_)
    · refine y_iload_n C 2 dX6_overAll_25 rfl ?_
      refine hret _ _ _ _ dX6_overAll_26 ⟨s1, rfl, ?_⟩
      show (n = sumZ (fun row => kndR u row wh) 8)
      obtain rfl : row = 8 := by omega
      exact hn.1
    · refine y_iload_n C 2 dX6_overAll_10 rfl ?_
      refine y_aload_n C 0 dX6_overAll_11 rfl ?_
      refine y_iload_n C 3 dX6_overAll_12 rfl ?_
      refine y_iload_n C 1 dX6_overAll_13 rfl ?_
      refine y_mcalli C (m_X6_many (l := l) (D := D) (cA := cA) (cB := cB) (y := y) (ms := ms) (ma := ma) (mp := mp) (mk := mk) (md := md) (me := me) (mo := mo) (np := np) (ik := ik) (ml := ml) (sp := sp) (wr := wr) (tp := tp) (bt := bt) (lf := lf) (rg := rg) (dp := dp) (u := u) (sn := s1) (row := row) (wh := wh) (by first | assumption | omega | exact ⟨by omega, by omega⟩) (by first | assumption | omega | exact ⟨by omega, by omega⟩) (by first | assumption | omega | exact ⟨by omega, by omega⟩)) lk_X6_167 [0, 1, 2] [] ⟨rfl, rfl, by decide, by decide, by decide⟩ (jb := 0) rfl rfl dX6_overAll_14 rfl rfl ⟨by exact Nat.le_of_ble_eq_true rfl, by exact Nat.le_of_ble_eq_true rfl, rfl, rfl, by exact Nat.le_of_ble_eq_true rfl, by exact Nat.le_of_ble_eq_true rfl, by exact Nat.le_of_ble_eq_true rfl⟩ (fun r_3 w_5 h_2 => ?_)
      obtain ⟨sn2_4, rfl, h_2⟩ := h_2
      refine ⟨[0, 1, 2], [cO y 6 [.ref ms, .ref ma, .ref mp, .int (zI np), .ref mk, .int (zI ik), .ref md, .int (zI ml), .ref me, .ref mo, .int (zI sp), .int (zI wr), .int (zI tp), .int (zI bt), .int (zI lf), .int (zI rg), .int (zI dp)], cI cA ms 800 u, cI cA me 32 sn2_4], ⟨rfl, by decide⟩, ?_⟩
      have hv := (h_2).1
      refine y_iadd C dX6_overAll_17 ?_
      refine y_istore_n C [(2, .int (zI (n + r_3))), (0, .ref y), (1, .int (zI wh)), (3, .int (zI row))] dX6_overAll_18 (by decide) rfl ?_
      refine y_iinc C 3 [(3, .int (zI (row + 1))), (2, .int (zI (n + r_3))), (0, .ref y), (1, .int (zI wh))] dX6_overAll_19 rfl (by decide) rfl ?_
      refine y_goto C 4 dX6_overAll_22 (by decide) ?_
      refine y_lsub C [2, 3, 1, 0] (lv' := [(0, .ref y), (1, .int (zI wh)), (2, .int (zI (n + r_3))), (3, .int (zI (row + 1)))]) rfl ?_
      exact ih4 (n + r_3) (row + 1) sn2_4 (by omega) (by refine ⟨?_, by omega, by omega⟩; rw [sumZ_s _ (by omega), ← hn.1, ← hv]) (by omega)

set_option maxHeartbeats 4000000 in
set_option maxRecDepth 100000 in
theorem m_X6_raised {l : Launch} {D : va_G} {cA cB : ClassId} {y ms ma mp mk md me mo : Nat} {np ik ml sp wr tp bt lf rg dp : Int} {u : Int → Int} (hU : UK u) : MI l yX6_raised cX6_raised 3 .int { frames := 0, cells := 0, slots := 0, locals := 0 } D (zT cA cB) [.ref y] [cO y 6 [.ref ms, .ref ma, .ref mp, .int (zI np), .ref mk, .int (zI ik), .ref md, .int (zI ml), .ref me, .ref mo, .int (zI sp), .int (zI wr), .int (zI tp), .int (zI bt), .int (zI lf), .int (zI rg), .int (zI dp)], cI cA ms 800 u] (fun r w => w = [cO y 6 [.ref ms, .ref ma, .ref mp, .int (zI np), .ref mk, .int (zI ik), .ref md, .int (zI ml), .ref me, .ref mo, .int (zI sp), .int (zI wr), .int (zI tp), .int (zI bt), .int (zI lf), .int (zI rg), .int (zI dp)], cI cA ms 800 u] ∧ r = zcnt (fun k => 0 < u (32 + k)) 256) := by
  refine MI.of RX6 ⟨rfl, by decide +kernel⟩ (Or.inl rfl) (Nat.le_of_ble_eq_true rfl) (fun h => by cases h) ?_
  intro K C hret
  change K 0 0 _ [(0, .ref y)] 0 []
  have hup := hU.p
  refine y_iconst C dX6_raised_0 ?_
  refine y_istore_n C [(1, .int (zI 0)), (0, .ref y)] dX6_raised_1 (by decide) rfl ?_
  refine y_bipush C dX6_raised_2 (by decide +kernel) ?_
  refine y_istore_n C [(2, .int (zI 32)), (1, .int (zI 0)), (0, .ref y)] dX6_raised_4 (by decide) rfl ?_
  refine y_lsub C [2, 1, 0] (lv' := [(0, .ref y), (1, .int (zI 0)), (2, .int (zI 32))]) rfl ?_
  suffices hL5 : ∀ (fu : Nat) (n : Int) (j : Int), (32 ≤ j ∧ j ≤ 288) → (n = zcnt (fun k => 0 < u (32 + k)) (j - 32) ∧ 0 ≤ n ∧ n ≤ j - 32) → (300 - j).toNat < fu → K 0 0 [cO y 6 [.ref ms, .ref ma, .ref mp, .int (zI np), .ref mk, .int (zI ik), .ref md, .int (zI ml), .ref me, .ref mo, .int (zI sp), .int (zI wr), .int (zI tp), .int (zI bt), .int (zI lf), .int (zI rg), .int (zI dp)], cI cA ms 800 u] [(0, .ref y), (1, .int (zI n)), (2, .int (zI j))] 5 [] from hL5 _ 0 32 (by omega) (by exact ⟨rfl, by omega, by omega⟩) (Nat.lt_succ_self _)
  intro f5
  induction f5 with
  | zero => exact fun _ _ _ _ hf => absurd hf (Nat.not_lt_zero _)
  | succ f5 ih5 =>
    intro n j hj hn hf5
    refine y_iload_n C 2 dX6_raised_5 rfl ?_
    refine y_sipush C dX6_raised_6 (by decide +kernel) ?_
    refine y_icmp_ge C 35 dX6_raised_9 (by decide) ⟨⟨by omega, by omega⟩, ⟨by omega, by omega⟩⟩ (fun c_1 => ?_) (fun c_1 => ?_)
    · refine y_iload_n C 1 dX6_raised_35 rfl ?_
      refine hret _ _ _ _ dX6_raised_36 ⟨rfl, ?_⟩
      show n = zcnt (fun k => 0 < u (32 + k)) 256
      obtain rfl : j = 288 := by omega
      exact hn.1
    · have hAj := hup (j - 32) (by omega) (by omega)
      rw [show 32 + (j - 32) = j by omega] at hAj
      refine y_iload_n C 1 dX6_raised_12 rfl ?_
      refine y_aload_n C 0 dX6_raised_13 rfl ?_
      refine y_get C fg_X6_7 0 dX6_raised_14 rfl rfl ?_
      refine y_iload_n C 2 dX6_raised_17 rfl ?_
      refine y_iald C 1 0 dX6_raised_18 rfl rfl ⟨by omega, by omega, by omega⟩ ?_
      refine y_if_le C 26 dX6_raised_19 (by decide) ⟨by omega, by omega⟩ (fun c_2 => ?_) (fun c_2 => ?_)
      · refine y_iconst C dX6_raised_26 ?_
        refine y_iadd C dX6_raised_27 ?_
        refine y_istore_n C [(1, .int (zI (n + 0))), (0, .ref y), (2, .int (zI j))] dX6_raised_28 (by decide) rfl ?_
        refine y_iinc C 2 [(2, .int (zI (j + 1))), (1, .int (zI (n + 0))), (0, .ref y)] dX6_raised_29 rfl (by decide) rfl ?_
        refine y_goto C 5 dX6_raised_32 (by decide) ?_
        refine y_lsub C [2, 1, 0] (lv' := [(0, .ref y), (1, .int (zI (n + 0))), (2, .int (zI (j + 1)))]) rfl ?_
        exact ih5 (n + 0) (j + 1) (by omega) (by refine ⟨?_, by omega, by omega⟩; rw [show j + 1 - 32 = (j - 32) + 1 by omega]; exact zcnt_step (by omega) hn.1 (by rw [show 32 + (j - 32) = j by omega]; omega)) (by omega)
      · refine y_iconst C dX6_raised_22 ?_
        refine y_goto C 27 dX6_raised_23 (by decide) ?_
        refine y_iadd C dX6_raised_27 ?_
        refine y_istore_n C [(1, .int (zI (n + 1))), (0, .ref y), (2, .int (zI j))] dX6_raised_28 (by decide) rfl ?_
        refine y_iinc C 2 [(2, .int (zI (j + 1))), (1, .int (zI (n + 1))), (0, .ref y)] dX6_raised_29 rfl (by decide) rfl ?_
        refine y_goto C 5 dX6_raised_32 (by decide) ?_
        refine y_lsub C [2, 1, 0] (lv' := [(0, .ref y), (1, .int (zI (n + 1))), (2, .int (zI (j + 1)))]) rfl ?_
        exact ih5 (n + 1) (j + 1) (by omega) (by refine ⟨?_, by omega, by omega⟩; rw [show j + 1 - 32 = (j - 32) + 1 by omega]; exact zcnt_step (by omega) hn.1 (by rw [show 32 + (j - 32) = j by omega]; omega)) (by omega)

set_option maxHeartbeats 4000000 in
set_option maxRecDepth 100000 in
theorem m_X6_count {l : Launch} {D : va_G} {cA cB : ClassId} {y ms ma mp mk md me mo : Nat} {np ik ml sp wr tp bt lf rg dp : Int} {u sn : Int → Int} {wh : Int} (hzwh : zR wh) (hU : UK u) : MI l yX6_count cX6_count 2 .int { frames := 7, cells := 0, slots := 0, locals := 168 } D (zT cA cB) [.ref y, .int (zI wh)] [cO y 6 [.ref ms, .ref ma, .ref mp, .int (zI np), .ref mk, .int (zI ik), .ref md, .int (zI ml), .ref me, .ref mo, .int (zI sp), .int (zI wr), .int (zI tp), .int (zI bt), .int (zI lf), .int (zI rg), .int (zI dp)], cI cA ms 800 u, cI cA me 32 sn] (fun r w => ∃ (sn2 : Int → Int), w = [cO y 6 [.ref ms, .ref ma, .ref mp, .int (zI np), .ref mk, .int (zI ik), .ref md, .int (zI ml), .ref me, .ref mo, .int (zI sp), .int (zI wr), .int (zI tp), .int (zI bt), .int (zI lf), .int (zI rg), .int (zI dp)], cI cA ms 800 u, cI cA me 32 sn2] ∧ (r = ansCount u ml np wh)) := by
  refine MI.of RX6 ⟨rfl, by decide +kernel⟩ (Or.inl rfl) (Nat.le_of_ble_eq_true rfl) (fun h => by cases h) ?_
  intro K C hret
  change K 0 0 _ [(0, .ref y), (1, .int (zI wh))] 0 []
  have hzwh1 := hzwh.1
  have hzwh2 := hzwh.2
  have hus := hU.s
  refine y_iload_n C 1 dX6_count_0 rfl ?_
  refine y_iconst C dX6_count_1 ?_
  refine y_bipush C dX6_count_2 (by decide +kernel) ?_
  refine y_pcalls C (m_X6_in (l := l) (D := D) (cA := cA) (cB := cB) (vv := wh) (lo := 1) (hi := 8) (by first | assumption | exact ⟨by omega, by omega⟩) (by first | assumption | exact ⟨by omega, by omega⟩) (by first | assumption | exact ⟨by omega, by omega⟩)) lk_X6_31 [] [0, 1, 2] [0, 1, 2] ⟨rfl, rfl, by decide, by decide, by decide⟩ ⟨rfl, by decide⟩ dX6_count_4 rfl rfl ⟨by exact Nat.le_of_ble_eq_true rfl, by exact Nat.le_of_ble_eq_true rfl, rfl, rfl, by exact Nat.le_of_ble_eq_true rfl, by exact Nat.le_of_ble_eq_true rfl, by exact Nat.le_of_ble_eq_true rfl⟩ (fun r_2 h_1 => ?_)
  refine y_if_eq C 18 dX6_count_7 (by decide) ⟨by omega, by omega⟩ (fun c_3 => ?_) (fun c_3 => ?_)
  · refine y_iload_n C 1 dX6_count_18 rfl ?_
    refine y_bipush C dX6_count_19 (by decide +kernel) ?_
    refine y_bipush C dX6_count_21 (by decide +kernel) ?_
    refine y_pcalls C (m_X6_in (l := l) (D := D) (cA := cA) (cB := cB) (vv := wh) (lo := 13) (hi := 18) (by first | assumption | exact ⟨by omega, by omega⟩) (by first | assumption | exact ⟨by omega, by omega⟩) (by first | assumption | exact ⟨by omega, by omega⟩)) lk_X6_31 [] [0, 1, 2] [0, 1, 2] ⟨rfl, rfl, by decide, by decide, by decide⟩ ⟨rfl, by decide⟩ dX6_count_23 rfl rfl ⟨by exact Nat.le_of_ble_eq_true rfl, by exact Nat.le_of_ble_eq_true rfl, rfl, rfl, by exact Nat.le_of_ble_eq_true rfl, by exact Nat.le_of_ble_eq_true rfl, by exact Nat.le_of_ble_eq_true rfl⟩ (fun r_5 h_4 => ?_)
    refine y_if_eq C 39 dX6_count_26 (by decide) ⟨by omega, by omega⟩ (fun c_6 => ?_) (fun c_6 => ?_)
    · refine y_iload_n C 1 dX6_count_39 rfl ?_
      rcases (show wh = 0 ∨ wh = 9 ∨ wh = 10 ∨ wh = 11 ∨ wh = 12 ∨ (wh < 0 ∨ 12 < wh) from by omega) with s_7 | s_7 | s_7 | s_7 | s_7 | s_7
      · refine y_tin C 108 0 dX6_count_40 ⟨by omega, by omega⟩ ⟨by omega, by omega⟩ (by omega) rfl (by decide) ?_
        refine y_aload_n C 0 dX6_count_108 rfl ?_
        refine y_pcall C (m_X6_raised (l := l) (D := D) (cA := cA) (cB := cB) (y := y) (ms := ms) (ma := ma) (mp := mp) (mk := mk) (md := md) (me := me) (mo := mo) (np := np) (ik := ik) (ml := ml) (sp := sp) (wr := wr) (tp := tp) (bt := bt) (lf := lf) (rg := rg) (dp := dp) (u := u) (by first | assumption | omega | exact ⟨by omega, by omega⟩)) lk_X6_194 [0, 1] [2] [1, 2, 0] ⟨rfl, rfl, by decide, by decide, by decide⟩ ⟨rfl, by decide⟩ rfl rfl dX6_count_109 rfl rfl ⟨by exact Nat.le_of_ble_eq_true rfl, by exact Nat.le_of_ble_eq_true rfl, rfl, rfl, by exact Nat.le_of_ble_eq_true rfl, by exact Nat.le_of_ble_eq_true rfl, by exact Nat.le_of_ble_eq_true rfl⟩ (fun r_9 h_8 => ?_)
        have hv := h_8
        refine hret _ _ _ _ dX6_count_112 ⟨sn, rfl, ?_⟩
        show (r_9 = ansCount u ml np wh)
        unfold ansCount
        (repeat' split) <;> first | (exfalso; omega) | exact hv | rfl
      · refine y_tin C 113 9 dX6_count_40 ⟨by omega, by omega⟩ ⟨by omega, by omega⟩ (by omega) rfl (by decide) ?_
        refine y_aload_n C 0 dX6_count_113 rfl ?_
        refine y_get C fg_X6_7 0 dX6_count_114 rfl rfl ?_
        refine y_bipush C dX6_count_117 (by decide +kernel) ?_
        refine y_iald C 1 0 dX6_count_119 rfl rfl ⟨by omega, by omega, by omega⟩ ?_
        refine hret _ _ _ _ dX6_count_120 ⟨sn, rfl, ?_⟩
        show ((u 6) = ansCount u ml np wh)
        unfold ansCount
        (repeat' split) <;> first | (exfalso; omega) | exact hv | rfl
      · refine y_tin C 121 10 dX6_count_40 ⟨by omega, by omega⟩ ⟨by omega, by omega⟩ (by omega) rfl (by decide) ?_
        refine y_aload_n C 0 dX6_count_121 rfl ?_
        refine y_get C fg_X6_7 0 dX6_count_122 rfl rfl ?_
        refine y_bipush C dX6_count_125 (by decide +kernel) ?_
        refine y_iald C 1 0 dX6_count_127 rfl rfl ⟨by omega, by omega, by omega⟩ ?_
        refine hret _ _ _ _ dX6_count_128 ⟨sn, rfl, ?_⟩
        show ((u 7) = ansCount u ml np wh)
        unfold ansCount
        (repeat' split) <;> first | (exfalso; omega) | exact hv | rfl
      · refine y_tin C 129 11 dX6_count_40 ⟨by omega, by omega⟩ ⟨by omega, by omega⟩ (by omega) rfl (by decide) ?_
        refine y_aload_n C 0 dX6_count_129 rfl ?_
        refine y_get C fg_X6_103 0 dX6_count_130 rfl rfl ?_
        refine hret _ _ _ _ dX6_count_133 ⟨sn, rfl, ?_⟩
        show (ml = ansCount u ml np wh)
        unfold ansCount
        (repeat' split) <;> first | (exfalso; omega) | exact hv | rfl
      · refine y_tin C 134 12 dX6_count_40 ⟨by omega, by omega⟩ ⟨by omega, by omega⟩ (by omega) rfl (by decide) ?_
        refine y_aload_n C 0 dX6_count_134 rfl ?_
        refine y_get C fg_X6_39 0 dX6_count_135 rfl rfl ?_
        refine hret _ _ _ _ dX6_count_138 ⟨sn, rfl, ?_⟩
        show (np = ansCount u ml np wh)
        unfold ansCount
        (repeat' split) <;> first | (exfalso; omega) | exact hv | rfl
      · refine y_tout C 139 dX6_count_40 ⟨by omega, by omega⟩ (by omega) (by decide) ?_
        refine y_iconst C dX6_count_139 ?_
        refine hret _ _ _ _ dX6_count_140 ⟨sn, rfl, ?_⟩
        show ((-1) = ansCount u ml np wh)
        unfold ansCount
        (repeat' split) <;> first | (exfalso; omega) | exact hv | rfl
    · refine y_aload_n C 0 dX6_count_29 rfl ?_
      refine y_get C fg_X6_7 0 dX6_count_30 rfl rfl ?_
      refine y_iload_n C 1 dX6_count_33 rfl ?_
      refine y_bipush C dX6_count_34 (by decide +kernel) ?_
      refine y_isub C dX6_count_36 ?_
      refine y_iald C 1 0 dX6_count_37 rfl rfl ⟨by omega, by omega, by omega⟩ ?_
      refine hret _ _ _ _ dX6_count_38 ⟨sn, rfl, ?_⟩
      show ((u (wh - 13)) = ansCount u ml np wh)
      unfold ansCount
      (repeat' split) <;> first | (exfalso; omega) | exact hv | rfl
  · refine y_aload_n C 0 dX6_count_10 rfl ?_
    refine y_iload_n C 1 dX6_count_11 rfl ?_
    refine y_iconst C dX6_count_12 ?_
    refine y_isub C dX6_count_13 ?_
    refine y_mcalli C (m_X6_overAll (l := l) (D := D) (cA := cA) (cB := cB) (y := y) (ms := ms) (ma := ma) (mp := mp) (mk := mk) (md := md) (me := me) (mo := mo) (np := np) (ik := ik) (ml := ml) (sp := sp) (wr := wr) (tp := tp) (bt := bt) (lf := lf) (rg := rg) (dp := dp) (u := u) (sn := sn) (wh := wh - 1) (by first | assumption | omega | exact ⟨by omega, by omega⟩) (by first | assumption | omega | exact ⟨by omega, by omega⟩)) lk_X6_191 [0, 1, 2] [] ⟨rfl, rfl, by decide, by decide, by decide⟩ (jb := 0) rfl rfl dX6_count_14 rfl rfl ⟨by exact Nat.le_of_ble_eq_true rfl, by exact Nat.le_of_ble_eq_true rfl, rfl, rfl, by exact Nat.le_of_ble_eq_true rfl, by exact Nat.le_of_ble_eq_true rfl, by exact Nat.le_of_ble_eq_true rfl⟩ (fun r_11 w_13 h_10 => ?_)
    obtain ⟨sn2_12, rfl, h_10⟩ := h_10
    refine ⟨[0, 1, 2], [cO y 6 [.ref ms, .ref ma, .ref mp, .int (zI np), .ref mk, .int (zI ik), .ref md, .int (zI ml), .ref me, .ref mo, .int (zI sp), .int (zI wr), .int (zI tp), .int (zI bt), .int (zI lf), .int (zI rg), .int (zI dp)], cI cA ms 800 u, cI cA me 32 sn2_12], ⟨rfl, by decide⟩, ?_⟩
    have hv := h_10
    refine hret _ _ _ _ dX6_count_17 ⟨sn2_12, rfl, ?_⟩
    show (r_11 = ansCount u ml np wh)
    unfold ansCount
    rw [if_neg (by omega), if_neg (by omega), if_neg (by omega), if_neg (by omega), if_neg (by omega), if_neg (by omega), if_neg (by omega)]
    exact hv

set_option maxHeartbeats 4000000 in
set_option maxRecDepth 100000 in
theorem m_X6_ifPainted {l : Launch} {D : va_G} {cA cB : ClassId} {y ms ma mp mk md me mo : Nat} {np ik ml sp wr tp bt lf rg dp : Int} {u sn so : Int → Int} {row col dot wh : Int} (hzrow : zR row) (hzcol : zR col) (hzdot : zR dot) (hzwh : zR wh) (hU : UK u) : MI l yX6_ifPainted cX6_ifPainted 10 .int { frames := 6, cells := 0, slots := 0, locals := 144 } D (zT cA cB) [.ref y, .int (zI row), .int (zI col), .int (zI dot), .int (zI wh)] [cO y 6 [.ref ms, .ref ma, .ref mp, .int (zI np), .ref mk, .int (zI ik), .ref md, .int (zI ml), .ref me, .ref mo, .int (zI sp), .int (zI wr), .int (zI tp), .int (zI bt), .int (zI lf), .int (zI rg), .int (zI dp)], cI cA ms 800 u, cI cA me 32 sn, cI cA mo 32 so] (fun r w => ∃ (u2 : Int → Int), ∃ (sn2 : Int → Int), ∃ (so2 : Int → Int), w = [cO y 6 [.ref ms, .ref ma, .ref mp, .int (zI np), .ref mk, .int (zI ik), .ref md, .int (zI ml), .ref me, .ref mo, .int (zI sp), .int (zI wr), .int (zI tp), .int (zI bt), .int (zI lf), .int (zI rg), .int (zI dp)], cI cA ms 800 u2, cI cA me 32 sn2, cI cA mo 32 so2] ∧ (r = ansIfP u row col dot wh) ∧ (∀ j : Int, 0 ≤ j → j < 800 → u2 j = u j)) := by
  refine MI.of RX6 ⟨rfl, by decide +kernel⟩ (Or.inl rfl) (Nat.le_of_ble_eq_true rfl) (fun h => by cases h) ?_
  intro K C hret
  change K 0 0 _ [(0, .ref y), (1, .int (zI row)), (2, .int (zI col)), (3, .int (zI dot)), (4, .int (zI wh))] 0 []
  have hzrow1 := hzrow.1
  have hzrow2 := hzrow.2
  have hzcol1 := hzcol.1
  have hzcol2 := hzcol.2
  have hzdot1 := hzdot.1
  have hzdot2 := hzdot.2
  have hzwh1 := hzwh.1
  have hzwh2 := hzwh.2
  refine y_iload_n C 1 dX6_ifPainted_0 rfl ?_
  refine y_pcalls C (m_X6_isRow (l := l) (D := D) (cA := cA) (cB := cB) (xx := row) (by first | assumption | exact ⟨by omega, by omega⟩)) lk_X6_78 [] [0, 1, 2, 3] [0, 1, 2, 3] ⟨rfl, rfl, by decide, by decide, by decide⟩ ⟨rfl, by decide⟩ dX6_ifPainted_1 rfl rfl ⟨by exact Nat.le_of_ble_eq_true rfl, by exact Nat.le_of_ble_eq_true rfl, rfl, rfl, by exact Nat.le_of_ble_eq_true rfl, by exact Nat.le_of_ble_eq_true rfl, by exact Nat.le_of_ble_eq_true rfl⟩ (fun r_2 h_1 => ?_)
  refine y_if_eq C 34 dX6_ifPainted_4 (by decide) ⟨by omega, by omega⟩ (fun c_3 => ?_) (fun c_3 => ?_)
  · refine y_iconst C dX6_ifPainted_34 ?_
    refine hret _ _ _ _ dX6_ifPainted_35 ⟨u, sn, so, rfl, ?_⟩
    show ((-1) = ansIfP u row col dot wh) ∧ (∀ j : Int, 0 ≤ j → j < 800 → u j = u j)
    refine ⟨?_, fun _ _ _ => rfl⟩
    unfold ansIfP; rw [if_neg (by omega)]
  · refine y_iload_n C 2 dX6_ifPainted_7 rfl ?_
    refine y_pcalls C (m_X6_isColumn (l := l) (D := D) (cA := cA) (cB := cB) (xx := col) (by first | assumption | exact ⟨by omega, by omega⟩)) lk_X6_52 [] [0, 1, 2, 3] [0, 1, 2, 3] ⟨rfl, rfl, by decide, by decide, by decide⟩ ⟨rfl, by decide⟩ dX6_ifPainted_8 rfl rfl ⟨by exact Nat.le_of_ble_eq_true rfl, by exact Nat.le_of_ble_eq_true rfl, rfl, rfl, by exact Nat.le_of_ble_eq_true rfl, by exact Nat.le_of_ble_eq_true rfl, by exact Nat.le_of_ble_eq_true rfl⟩ (fun r_5 h_4 => ?_)
    refine y_if_eq C 34 dX6_ifPainted_11 (by decide) ⟨by omega, by omega⟩ (fun c_6 => ?_) (fun c_6 => ?_)
    · refine y_iconst C dX6_ifPainted_34 ?_
      refine hret _ _ _ _ dX6_ifPainted_35 ⟨u, sn, so, rfl, ?_⟩
      show ((-1) = ansIfP u row col dot wh) ∧ (∀ j : Int, 0 ≤ j → j < 800 → u j = u j)
      refine ⟨?_, fun _ _ _ => rfl⟩
      unfold ansIfP; rw [if_neg (by omega)]
    · refine y_iload_n C 3 dX6_ifPainted_14 rfl ?_
      refine y_iconst C dX6_ifPainted_15 ?_
      refine y_bipush C dX6_ifPainted_16 (by decide +kernel) ?_
      refine y_pcalls C (m_X6_in (l := l) (D := D) (cA := cA) (cB := cB) (vv := dot) (lo := 0) (hi := 7) (by first | assumption | exact ⟨by omega, by omega⟩) (by first | assumption | exact ⟨by omega, by omega⟩) (by first | assumption | exact ⟨by omega, by omega⟩)) lk_X6_31 [] [0, 1, 2, 3] [0, 1, 2, 3] ⟨rfl, rfl, by decide, by decide, by decide⟩ ⟨rfl, by decide⟩ dX6_ifPainted_18 rfl rfl ⟨by exact Nat.le_of_ble_eq_true rfl, by exact Nat.le_of_ble_eq_true rfl, rfl, rfl, by exact Nat.le_of_ble_eq_true rfl, by exact Nat.le_of_ble_eq_true rfl, by exact Nat.le_of_ble_eq_true rfl⟩ (fun r_8 h_7 => ?_)
      refine y_if_eq C 34 dX6_ifPainted_21 (by decide) ⟨by omega, by omega⟩ (fun c_9 => ?_) (fun c_9 => ?_)
      · refine y_iconst C dX6_ifPainted_34 ?_
        refine hret _ _ _ _ dX6_ifPainted_35 ⟨u, sn, so, rfl, ?_⟩
        show ((-1) = ansIfP u row col dot wh) ∧ (∀ j : Int, 0 ≤ j → j < 800 → u j = u j)
        refine ⟨?_, fun _ _ _ => rfl⟩
        unfold ansIfP; rw [if_neg (by omega)]
      · refine y_iload C 4 dX6_ifPainted_24 rfl ?_
        refine y_iconst C dX6_ifPainted_26 ?_
        refine y_iconst C dX6_ifPainted_27 ?_
        refine y_pcalls C (m_X6_in (l := l) (D := D) (cA := cA) (cB := cB) (vv := wh) (lo := 0) (hi := 2) (by first | assumption | exact ⟨by omega, by omega⟩) (by first | assumption | exact ⟨by omega, by omega⟩) (by first | assumption | exact ⟨by omega, by omega⟩)) lk_X6_31 [] [0, 1, 2, 3] [0, 1, 2, 3] ⟨rfl, rfl, by decide, by decide, by decide⟩ ⟨rfl, by decide⟩ dX6_ifPainted_28 rfl rfl ⟨by exact Nat.le_of_ble_eq_true rfl, by exact Nat.le_of_ble_eq_true rfl, rfl, rfl, by exact Nat.le_of_ble_eq_true rfl, by exact Nat.le_of_ble_eq_true rfl, by exact Nat.le_of_ble_eq_true rfl⟩ (fun r_11 h_10 => ?_)
        refine y_if_ne C 36 dX6_ifPainted_31 (by decide) ⟨by omega, by omega⟩ (fun c_12 => ?_) (fun c_12 => ?_)
        · refine y_aload_n C 0 dX6_ifPainted_36 rfl ?_
          refine y_iload_n C 1 dX6_ifPainted_37 rfl ?_
          refine y_mcallv C (m_X6_looksBeside (l := l) (D := D) (cA := cA) (cB := cB) (y := y) (ms := ms) (ma := ma) (mp := mp) (mk := mk) (md := md) (me := me) (mo := mo) (np := np) (ik := ik) (ml := ml) (sp := sp) (wr := wr) (tp := tp) (bt := bt) (lf := lf) (rg := rg) (dp := dp) (u := u) (sn := sn) (so := so) (row := row) (by first | assumption | omega | exact ⟨by omega, by omega⟩) (by first | assumption | omega | exact ⟨by omega, by omega⟩)) lk_X6_185 [0, 1, 2, 3] [] ⟨rfl, rfl, by decide, by decide, by decide⟩ (jb := 0) rfl rfl dX6_ifPainted_38 rfl rfl ⟨by exact Nat.le_of_ble_eq_true rfl, by exact Nat.le_of_ble_eq_true rfl, rfl, rfl, by exact Nat.le_of_ble_eq_true rfl, by exact Nat.le_of_ble_eq_true rfl, by exact Nat.le_of_ble_eq_true rfl⟩ (fun w_17 h_13 => ?_)
          obtain ⟨sn2_15, so2_16, rfl, h_13⟩ := h_13
          refine ⟨[0, 1, 2, 3], [cO y 6 [.ref ms, .ref ma, .ref mp, .int (zI np), .ref mk, .int (zI ik), .ref md, .int (zI ml), .ref me, .ref mo, .int (zI sp), .int (zI wr), .int (zI tp), .int (zI bt), .int (zI lf), .int (zI rg), .int (zI dp)], cI cA ms 800 u, cI cA me 32 sn2_15, cI cA mo 32 so2_16], ⟨rfl, by decide⟩, ?_⟩
          have ho := (h_13).2
          refine y_aload_n C 0 dX6_ifPainted_41 rfl ?_
          refine y_iload_n C 1 dX6_ifPainted_42 rfl ?_
          refine y_iload_n C 2 dX6_ifPainted_43 rfl ?_
          refine y_pcall C (m_X6_dotOf (l := l) (D := D) (cA := cA) (cB := cB) (y := y) (ms := ms) (ma := ma) (mp := mp) (mk := mk) (md := md) (me := me) (mo := mo) (np := np) (ik := ik) (ml := ml) (sp := sp) (wr := wr) (tp := tp) (bt := bt) (lf := lf) (rg := rg) (dp := dp) (u := u) (row := row) (c := col) (by first | assumption | omega | exact ⟨by omega, by omega⟩) (by first | assumption | omega | exact ⟨by omega, by omega⟩) (by first | assumption | omega | exact ⟨by omega, by omega⟩)) lk_X6_56 [0, 1] [2, 3] [2, 3, 0, 1] ⟨rfl, rfl, by decide, by decide, by decide⟩ ⟨rfl, by decide⟩ rfl rfl dX6_ifPainted_44 rfl rfl ⟨by exact Nat.le_of_ble_eq_true rfl, by exact Nat.le_of_ble_eq_true rfl, rfl, rfl, by exact Nat.le_of_ble_eq_true rfl, by exact Nat.le_of_ble_eq_true rfl, by exact Nat.le_of_ble_eq_true rfl⟩ (fun r_19 h_18 => ?_)
          have hd : r_19 = u (288 + (row * 32 + col)) := (h_18).1
          have hd7 := (h_18).2
          have hUd := UK_dot (k := 288 + (row * 32 + col)) (x := dot) hU (by omega) (by omega)
          refine y_istore C [(5, .int (zI r_19)), (0, .ref y), (1, .int (zI row)), (2, .int (zI col)), (3, .int (zI dot)), (4, .int (zI wh))] dX6_ifPainted_47 (by decide) rfl ?_
          refine y_aload_n C 1 dX6_ifPainted_49 rfl ?_
          refine y_get C fg_X6_7 0 dX6_ifPainted_50 rfl rfl ?_
          refine y_sipush C dX6_ifPainted_53 (by decide +kernel) ?_
          refine y_iload_n C 2 dX6_ifPainted_56 rfl ?_
          refine y_iload_n C 3 dX6_ifPainted_57 rfl ?_
          refine y_pcalls C (m_X6_place (l := l) (D := D) (cA := cA) (cB := cB) (rr := row) (cc := col) ) lk_X6_35 [] [0, 1, 2, 3] [0, 1, 2, 3] ⟨rfl, rfl, by decide, by decide, by decide⟩ ⟨rfl, by decide⟩ dX6_ifPainted_58 rfl rfl ⟨by exact Nat.le_of_ble_eq_true rfl, by exact Nat.le_of_ble_eq_true rfl, rfl, rfl, by exact Nat.le_of_ble_eq_true rfl, by exact Nat.le_of_ble_eq_true rfl, by exact Nat.le_of_ble_eq_true rfl⟩ (fun r_21 h_20 => ?_)
          refine y_iadd C dX6_ifPainted_61 ?_
          refine y_top (show (288 + r_21) = (288 + (row * 32 + col)) from by omega) ?_
          refine y_iload_n C 4 dX6_ifPainted_62 rfl ?_
          refine y_iast C 1 0 [cO y 6 [.ref ms, .ref ma, .ref mp, .int (zI np), .ref mk, .int (zI ik), .ref md, .int (zI ml), .ref me, .ref mo, .int (zI sp), .int (zI wr), .int (zI tp), .int (zI bt), .int (zI lf), .int (zI rg), .int (zI dp)], cI cA ms 800 (zU u (288 + (row * 32 + col)) dot), cI cA me 32 sn2_15, cI cA mo 32 so2_16] dX6_ifPainted_63 rfl rfl ⟨by omega, by omega, by omega⟩ rfl ?_
          refine y_aload_n C 1 dX6_ifPainted_64 rfl ?_
          refine y_iload_n C 2 dX6_ifPainted_65 rfl ?_
          refine y_mcalli C (m_X6_rightOnes (l := l) (D := D) (cA := cA) (cB := cB) (y := y) (ms := ms) (ma := ma) (mp := mp) (mk := mk) (md := md) (me := me) (mo := mo) (np := np) (ik := ik) (ml := ml) (sp := sp) (wr := wr) (tp := tp) (bt := bt) (lf := lf) (rg := rg) (dp := dp) (u := zU u (288 + (row * 32 + col)) dot) (sn := sn2_15) (row := row) (by first | assumption | omega | exact ⟨by omega, by omega⟩) (by exact hUd)) lk_X6_74 [0, 1, 2] [3] ⟨rfl, rfl, by decide, by decide, by decide⟩ (jb := 0) rfl rfl dX6_ifPainted_66 rfl rfl ⟨by exact Nat.le_of_ble_eq_true rfl, by exact Nat.le_of_ble_eq_true rfl, rfl, rfl, by exact Nat.le_of_ble_eq_true rfl, by exact Nat.le_of_ble_eq_true rfl, by exact Nat.le_of_ble_eq_true rfl⟩ (fun r_23 w_25 h_22 => ?_)
          obtain ⟨sn2_24, rfl, h_22⟩ := h_22
          refine ⟨[1, 2, 3, 0], [cO y 6 [.ref ms, .ref ma, .ref mp, .int (zI np), .ref mk, .int (zI ik), .ref md, .int (zI ml), .ref me, .ref mo, .int (zI sp), .int (zI wr), .int (zI tp), .int (zI bt), .int (zI lf), .int (zI rg), .int (zI dp)], cI cA ms 800 (zU u (288 + (row * 32 + col)) dot), cI cA me 32 sn2_24, cI cA mo 32 so2_16], ⟨rfl, by decide⟩, ?_⟩
          have hrt := (h_22).1
          have hl := (h_22).2
          have hlu : ∀ k : Int, 0 ≤ k → k < 32 → sn2_24 k = sm1 (seeU u row col dot k) := fun k a b => by rw [hl k a b, seeU_of hU ⟨by omega, by omega⟩ ⟨by omega, by omega⟩]
          have hrt2 : r_23 = zcnt (fun k => seeU u row col dot k = zp u row k) 32 := by rw [hrt.1]; exact zcnt_congr (fun k a b => by rw [seeU_of hU ⟨by omega, by omega⟩ ⟨by omega, by omega⟩, zpU_of ⟨by omega, by omega⟩ ⟨by omega, by omega⟩ ⟨by omega, by omega⟩ ⟨a, b⟩])
          refine y_istore C [(6, .int (zI r_23)), (5, .int (zI r_19)), (0, .ref y), (1, .int (zI row)), (2, .int (zI col)), (3, .int (zI dot)), (4, .int (zI wh))] dX6_ifPainted_69 (by decide) rfl ?_
          refine y_aload_n C 2 dX6_ifPainted_71 rfl ?_
          refine y_get C fg_X6_7 0 dX6_ifPainted_72 rfl rfl ?_
          refine y_sipush C dX6_ifPainted_75 (by decide +kernel) ?_
          refine y_iload_n C 3 dX6_ifPainted_78 rfl ?_
          refine y_iload_n C 4 dX6_ifPainted_79 rfl ?_
          refine y_pcalls C (m_X6_place (l := l) (D := D) (cA := cA) (cB := cB) (rr := row) (cc := col) ) lk_X6_35 [] [0, 1, 2, 3] [0, 1, 2, 3] ⟨rfl, rfl, by decide, by decide, by decide⟩ ⟨rfl, by decide⟩ dX6_ifPainted_80 rfl rfl ⟨by exact Nat.le_of_ble_eq_true rfl, by exact Nat.le_of_ble_eq_true rfl, rfl, rfl, by exact Nat.le_of_ble_eq_true rfl, by exact Nat.le_of_ble_eq_true rfl, by exact Nat.le_of_ble_eq_true rfl⟩ (fun r_27 h_26 => ?_)
          refine y_iadd C dX6_ifPainted_83 ?_
          refine y_top (show (288 + r_27) = (288 + (row * 32 + col)) from by omega) ?_
          refine y_iload C 1 dX6_ifPainted_84 rfl ?_
          refine y_iast C 1 0 [cO y 6 [.ref ms, .ref ma, .ref mp, .int (zI np), .ref mk, .int (zI ik), .ref md, .int (zI ml), .ref me, .ref mo, .int (zI sp), .int (zI wr), .int (zI tp), .int (zI bt), .int (zI lf), .int (zI rg), .int (zI dp)], cI cA ms 800 (zU (zU u (288 + (row * 32 + col)) dot) (288 + (row * 32 + col)) r_19), cI cA me 32 sn2_24, cI cA mo 32 so2_16] dX6_ifPainted_86 rfl rfl ⟨by omega, by omega, by omega⟩ rfl ?_
          refine y_iconst C dX6_ifPainted_87 ?_
          refine y_istore C [(7, .int (zI 0)), (6, .int (zI r_23)), (5, .int (zI r_19)), (0, .ref y), (1, .int (zI row)), (2, .int (zI col)), (3, .int (zI dot)), (4, .int (zI wh))] dX6_ifPainted_88 (by decide) rfl ?_
          refine y_bipush C dX6_ifPainted_90 (by decide +kernel) ?_
          refine y_istore C [(8, .int (zI (-4))), (7, .int (zI 0)), (6, .int (zI r_23)), (5, .int (zI r_19)), (0, .ref y), (1, .int (zI row)), (2, .int (zI col)), (3, .int (zI dot)), (4, .int (zI wh))] dX6_ifPainted_92 (by decide) rfl ?_
          refine y_iconst C dX6_ifPainted_94 ?_
          refine y_istore C [(9, .int (zI 0)), (8, .int (zI (-4))), (7, .int (zI 0)), (6, .int (zI r_23)), (5, .int (zI r_19)), (0, .ref y), (1, .int (zI row)), (2, .int (zI col)), (3, .int (zI dot)), (4, .int (zI wh))] dX6_ifPainted_95 (by decide) rfl ?_
          refine y_lsub C [5, 6, 7, 8, 9, 4, 3, 2, 1, 0] (lv' := [(0, .ref y), (1, .int (zI row)), (2, .int (zI col)), (3, .int (zI dot)), (4, .int (zI wh)), (5, .int (zI r_19)), (6, .int (zI r_23)), (7, .int (zI 0)), (8, .int (zI (-4))), (9, .int (zI 0))]) rfl ?_
          suffices hL97 : ∀ (fu : Nat) (n : Int) (far : Int) (c : Int), (0 ≤ c ∧ c ≤ 32) → (n = zcnt (fun k => ¬ seeR u row k = seeU u row col dot k) c ∧ 0 ≤ n ∧ n ≤ c) → (far = farZ (seeR u row) (seeU u row col dot) col c ∧ -4 ≤ far ∧ far ≤ 31) → (32 - c).toNat < fu → K 0 0 [cO y 6 [.ref ms, .ref ma, .ref mp, .int (zI np), .ref mk, .int (zI ik), .ref md, .int (zI ml), .ref me, .ref mo, .int (zI sp), .int (zI wr), .int (zI tp), .int (zI bt), .int (zI lf), .int (zI rg), .int (zI dp)], cI cA ms 800 (zU (zU u (288 + (row * 32 + col)) dot) (288 + (row * 32 + col)) r_19), cI cA me 32 sn2_24, cI cA mo 32 so2_16] [(0, .ref y), (1, .int (zI row)), (2, .int (zI col)), (3, .int (zI dot)), (4, .int (zI wh)), (5, .int (zI r_19)), (6, .int (zI r_23)), (7, .int (zI n)), (8, .int (zI far)), (9, .int (zI c))] 97 [] from hL97 _ 0 (-4) 0 (by omega) (by exact ⟨rfl, by omega, by omega⟩) (by exact ⟨rfl, by omega, by omega⟩) (Nat.lt_succ_self _)
          intro f97
          induction f97 with
          | zero => exact fun _ _ _ _ _ _ hf => absurd hf (Nat.not_lt_zero _)
          | succ f97 ih97 =>
            intro n far c hc hn hfar hf97
            refine y_iload C 9 dX6_ifPainted_97 rfl ?_
            refine y_bipush C dX6_ifPainted_99 (by decide +kernel) ?_
            refine y_icmp_ge C 154 dX6_ifPainted_101 (by decide) ⟨⟨by omega, by omega⟩, ⟨by omega, by omega⟩⟩ (fun c_28 => ?_) (fun c_28 => ?_)
            · refine y_iload C 4 dX6_ifPainted_154 rfl ?_
              refine y_if_ne C 164 dX6_ifPainted_156 (by decide) ⟨by omega, by omega⟩ (fun c_29 => ?_) (fun c_29 => ?_)
              · refine y_iload C 4 dX6_ifPainted_164 rfl ?_
                refine y_iconst C dX6_ifPainted_166 ?_
                refine y_icmp_ne C 175 dX6_ifPainted_167 (by decide) ⟨⟨by omega, by omega⟩, ⟨by omega, by omega⟩⟩ (fun c_30 => ?_) (fun c_30 => ?_)
                · refine y_iload C 8 dX6_ifPainted_175 rfl ?_
                  refine hret _ _ _ _ dX6_ifPainted_177 ⟨(zU (zU u (288 + (row * 32 + col)) dot) (288 + (row * 32 + col)) r_19), sn2_24, so2_16, rfl, ?_⟩
                  show (far = ansIfP u row col dot wh) ∧ (∀ j : Int, 0 ≤ j → j < 800 → (zU (zU u (288 + (row * 32 + col)) dot) (288 + (row * 32 + col)) r_19) j = u j)
                  refine ⟨?_, zU_back hd⟩
                  obtain rfl : c = 32 := by omega
                  unfold ansIfP ifpZ
                  rw [if_pos (by omega)]
                  first | (rw [if_pos (by omega), hn.1, zcnt_not _ (show (0 : Int) ≤ 32 by omega)]; done) | (rw [if_neg (by omega), if_pos (by omega)]; exact hrt2) | (rw [if_neg (by omega), if_neg (by omega)]; exact hfar.1)
                · refine y_iload C 6 dX6_ifPainted_170 rfl ?_
                  refine y_goto C 177 dX6_ifPainted_172 (by decide) ?_
                  refine hret _ _ _ _ dX6_ifPainted_177 ⟨(zU (zU u (288 + (row * 32 + col)) dot) (288 + (row * 32 + col)) r_19), sn2_24, so2_16, rfl, ?_⟩
                  show (r_23 = ansIfP u row col dot wh) ∧ (∀ j : Int, 0 ≤ j → j < 800 → (zU (zU u (288 + (row * 32 + col)) dot) (288 + (row * 32 + col)) r_19) j = u j)
                  refine ⟨?_, zU_back hd⟩
                  obtain rfl : c = 32 := by omega
                  unfold ansIfP ifpZ
                  rw [if_pos (by omega)]
                  first | (rw [if_pos (by omega), hn.1, zcnt_not _ (show (0 : Int) ≤ 32 by omega)]; done) | (rw [if_neg (by omega), if_pos (by omega)]; exact hrt2) | (rw [if_neg (by omega), if_neg (by omega)]; exact hfar.1)
              · refine y_iload C 7 dX6_ifPainted_159 rfl ?_
                refine y_goto C 177 dX6_ifPainted_161 (by decide) ?_
                refine hret _ _ _ _ dX6_ifPainted_177 ⟨(zU (zU u (288 + (row * 32 + col)) dot) (288 + (row * 32 + col)) r_19), sn2_24, so2_16, rfl, ?_⟩
                show (n = ansIfP u row col dot wh) ∧ (∀ j : Int, 0 ≤ j → j < 800 → (zU (zU u (288 + (row * 32 + col)) dot) (288 + (row * 32 + col)) r_19) j = u j)
                refine ⟨?_, zU_back hd⟩
                obtain rfl : c = 32 := by omega
                unfold ansIfP ifpZ
                rw [if_pos (by omega)]
                first | (rw [if_pos (by omega), hn.1, zcnt_not _ (show (0 : Int) ≤ 32 by omega)]; done) | (rw [if_neg (by omega), if_pos (by omega)]; exact hrt2) | (rw [if_neg (by omega), if_neg (by omega)]; exact hfar.1)
            · have e1 := hlu c (by omega) (by omega)
              have e2 := ho c (by omega) (by omega)
              have e3 := sm1_or (x := seeU u row col dot c) (seeZ_r _ _ _ _ _)
              have e4 := sm1_or (seeR_r u row c)
              refine y_aload_n C 0 dX6_ifPainted_104 rfl ?_
              refine y_get C fg_X6_25 0 dX6_ifPainted_105 rfl rfl ?_
              refine y_iload C 9 dX6_ifPainted_108 rfl ?_
              refine y_iald C 2 0 dX6_ifPainted_110 rfl rfl ⟨by omega, by omega, by omega⟩ ?_
              refine y_aload_n C 0 dX6_ifPainted_111 rfl ?_
              refine y_get C fg_X6_28 0 dX6_ifPainted_112 rfl rfl ?_
              refine y_iload C 9 dX6_ifPainted_115 rfl ?_
              refine y_iald C 3 0 dX6_ifPainted_117 rfl rfl ⟨by omega, by omega, by omega⟩ ?_
              refine y_icmp_eq C 148 dX6_ifPainted_118 (by decide) ⟨⟨by omega, by omega⟩, ⟨by omega, by omega⟩⟩ (fun c_31 => ?_) (fun c_31 => ?_)
              · refine y_iinc C 9 [(9, .int (zI (c + 1))), (0, .ref y), (1, .int (zI row)), (2, .int (zI col)), (3, .int (zI dot)), (4, .int (zI wh)), (5, .int (zI r_19)), (6, .int (zI r_23)), (7, .int (zI n)), (8, .int (zI far))] dX6_ifPainted_148 rfl (by decide) rfl ?_
                refine y_goto C 97 dX6_ifPainted_151 (by decide) ?_
                refine y_lsub C [1, 2, 3, 4, 5, 6, 7, 8, 9, 0] (lv' := [(0, .ref y), (1, .int (zI row)), (2, .int (zI col)), (3, .int (zI dot)), (4, .int (zI wh)), (5, .int (zI r_19)), (6, .int (zI r_23)), (7, .int (zI n)), (8, .int (zI far)), (9, .int (zI (c + 1)))]) rfl ?_
                exact ih97 n far (c + 1) (by omega) (by refine ⟨?_, by omega, by omega⟩; exact zcnt_step (by omega) hn.1 (by omega)) (by refine ⟨?_, by omega, by omega⟩; rw [farZ_s _ _ _ (by omega)]; first | (rw [if_pos (by omega)]; exact hfar.1) | (rw [if_neg (by omega), ← hfar.1]; omega)) (by omega)
              · refine y_iinc C 7 [(7, .int (zI (n + 1))), (0, .ref y), (1, .int (zI row)), (2, .int (zI col)), (3, .int (zI dot)), (4, .int (zI wh)), (5, .int (zI r_19)), (6, .int (zI r_23)), (8, .int (zI far)), (9, .int (zI c))] dX6_ifPainted_121 rfl (by decide) rfl ?_
                refine y_iload C 8 dX6_ifPainted_124 rfl ?_
                refine y_iload C 9 dX6_ifPainted_126 rfl ?_
                refine y_iload_n C 3 dX6_ifPainted_128 rfl ?_
                refine y_icmp_ge C 139 dX6_ifPainted_129 (by decide) ⟨⟨by omega, by omega⟩, ⟨by omega, by omega⟩⟩ (fun c_32 => ?_) (fun c_32 => ?_)
                · refine y_iload C 9 dX6_ifPainted_139 rfl ?_
                  refine y_iload_n C 3 dX6_ifPainted_141 rfl ?_
                  refine y_isub C dX6_ifPainted_142 ?_
                  refine y_pcalls C (m_X6_greater (l := l) (D := D) (cA := cA) (cB := cB) (aa := far) (bb := c - col) (by exact ⟨by omega, by omega⟩) (by exact ⟨by omega, by omega⟩)) lk_X6_164 [] [0, 1, 2, 3] [0, 1, 2, 3] ⟨rfl, rfl, by decide, by decide, by decide⟩ ⟨rfl, by decide⟩ dX6_ifPainted_143 rfl rfl ⟨by exact Nat.le_of_ble_eq_true rfl, by exact Nat.le_of_ble_eq_true rfl, rfl, rfl, by exact Nat.le_of_ble_eq_true rfl, by exact Nat.le_of_ble_eq_true rfl, by exact Nat.le_of_ble_eq_true rfl⟩ (fun r_34 h_33 => ?_)
                  have hgt := h_33
                  refine y_istore C [(8, .int (zI r_34)), (7, .int (zI (n + 1))), (0, .ref y), (1, .int (zI row)), (2, .int (zI col)), (3, .int (zI dot)), (4, .int (zI wh)), (5, .int (zI r_19)), (6, .int (zI r_23)), (9, .int (zI c))] dX6_ifPainted_146 (by decide) rfl ?_
                  refine y_iinc C 9 [(9, .int (zI (c + 1))), (8, .int (zI r_34)), (7, .int (zI (n + 1))), (0, .ref y), (1, .int (zI row)), (2, .int (zI col)), (3, .int (zI dot)), (4, .int (zI wh)), (5, .int (zI r_19)), (6, .int (zI r_23))] dX6_ifPainted_148 rfl (by decide) rfl ?_
                  refine y_goto C 97 dX6_ifPainted_151 (by decide) ?_
                  refine y_lsub C [3, 4, 5, 6, 7, 8, 9, 2, 1, 0] (lv' := [(0, .ref y), (1, .int (zI row)), (2, .int (zI col)), (3, .int (zI dot)), (4, .int (zI wh)), (5, .int (zI r_19)), (6, .int (zI r_23)), (7, .int (zI (n + 1))), (8, .int (zI r_34)), (9, .int (zI (c + 1)))]) rfl ?_
                  exact ih97 (n + 1) r_34 (c + 1) (by omega) (by refine ⟨?_, by omega, by omega⟩; exact zcnt_step (by omega) hn.1 (by omega)) (by refine ⟨?_, by omega, by omega⟩; rw [farZ_s _ _ _ (by omega)]; first | (rw [if_pos (by omega)]; exact hfar.1) | (rw [if_neg (by omega), ← hfar.1]; omega)) (by omega)
                · refine y_iload_n C 3 dX6_ifPainted_132 rfl ?_
                  refine y_iload C 9 dX6_ifPainted_133 rfl ?_
                  refine y_isub C dX6_ifPainted_135 ?_
                  refine y_goto C 143 dX6_ifPainted_136 (by decide) ?_
                  refine y_pcalls C (m_X6_greater (l := l) (D := D) (cA := cA) (cB := cB) (aa := far) (bb := col - c) (by exact ⟨by omega, by omega⟩) (by exact ⟨by omega, by omega⟩)) lk_X6_164 [] [0, 1, 2, 3] [0, 1, 2, 3] ⟨rfl, rfl, by decide, by decide, by decide⟩ ⟨rfl, by decide⟩ dX6_ifPainted_143 rfl rfl ⟨by exact Nat.le_of_ble_eq_true rfl, by exact Nat.le_of_ble_eq_true rfl, rfl, rfl, by exact Nat.le_of_ble_eq_true rfl, by exact Nat.le_of_ble_eq_true rfl, by exact Nat.le_of_ble_eq_true rfl⟩ (fun r_36 h_35 => ?_)
                  have hgt := h_35
                  refine y_istore C [(8, .int (zI r_36)), (7, .int (zI (n + 1))), (0, .ref y), (1, .int (zI row)), (2, .int (zI col)), (3, .int (zI dot)), (4, .int (zI wh)), (5, .int (zI r_19)), (6, .int (zI r_23)), (9, .int (zI c))] dX6_ifPainted_146 (by decide) rfl ?_
                  refine y_iinc C 9 [(9, .int (zI (c + 1))), (8, .int (zI r_36)), (7, .int (zI (n + 1))), (0, .ref y), (1, .int (zI row)), (2, .int (zI col)), (3, .int (zI dot)), (4, .int (zI wh)), (5, .int (zI r_19)), (6, .int (zI r_23))] dX6_ifPainted_148 rfl (by decide) rfl ?_
                  refine y_goto C 97 dX6_ifPainted_151 (by decide) ?_
                  refine y_lsub C [3, 4, 5, 6, 7, 8, 9, 2, 1, 0] (lv' := [(0, .ref y), (1, .int (zI row)), (2, .int (zI col)), (3, .int (zI dot)), (4, .int (zI wh)), (5, .int (zI r_19)), (6, .int (zI r_23)), (7, .int (zI (n + 1))), (8, .int (zI r_36)), (9, .int (zI (c + 1)))]) rfl ?_
                  exact ih97 (n + 1) r_36 (c + 1) (by omega) (by refine ⟨?_, by omega, by omega⟩; exact zcnt_step (by omega) hn.1 (by omega)) (by refine ⟨?_, by omega, by omega⟩; rw [farZ_s _ _ _ (by omega)]; first | (rw [if_pos (by omega)]; exact hfar.1) | (rw [if_neg (by omega), ← hfar.1]; omega)) (by omega)
        · refine y_iconst C dX6_ifPainted_34 ?_
          refine hret _ _ _ _ dX6_ifPainted_35 ⟨u, sn, so, rfl, ?_⟩
          show ((-1) = ansIfP u row col dot wh) ∧ (∀ j : Int, 0 ≤ j → j < 800 → u j = u j)
          refine ⟨?_, fun _ _ _ => rfl⟩
          unfold ansIfP; rw [if_neg (by omega)]

set_option maxHeartbeats 4000000 in
set_option maxRecDepth 100000 in
theorem m_X6_rightBy {l : Launch} {D : va_G} {cA cB : ClassId} {y ms ma mp mk md me mo : Nat} {np ik ml sp wr tp bt lf rg dp : Int} {u av sn : Int → Int} {row pe : Int} (hrow : 0 ≤ row ∧ row < 8) (hpe : 6 ≤ pe ∧ pe ≤ 16) (hU : UK u) : MI l yX6_rightBy cX6_rightBy 4 .int { frames := 6, cells := 0, slots := 0, locals := 144 } D (zT cA cB) [.ref y, .int (zI row), .int (zI pe)] [cO y 6 [.ref ms, .ref ma, .ref mp, .int (zI np), .ref mk, .int (zI ik), .ref md, .int (zI ml), .ref me, .ref mo, .int (zI sp), .int (zI wr), .int (zI tp), .int (zI bt), .int (zI lf), .int (zI rg), .int (zI dp)], cI cA ms 800 u, cI cA ma 800 av, cI cA me 32 sn] (fun r w => ∃ (u2 : Int → Int), ∃ (av2 : Int → Int), ∃ (sn2 : Int → Int), w = [cO y 6 [.ref ms, .ref ma, .ref mp, .int (zI np), .ref mk, .int (zI ik), .ref md, .int (zI ml), .ref me, .ref mo, .int (zI sp), .int (zI wr), .int (zI tp), .int (zI bt), .int (zI lf), .int (zI rg), .int (zI dp)], cI cA ms 800 u2, cI cA ma 800 av2, cI cA me 32 sn2] ∧ (r = rprZ u row pe ∧ 0 ≤ r ∧ r ≤ 32) ∧ (∀ j : Int, 0 ≤ j → j < 800 → u2 j = u j)) := by
  refine MI.of RX6 ⟨rfl, by decide +kernel⟩ (Or.inl rfl) (Nat.le_of_ble_eq_true rfl) (fun h => by cases h) ?_
  intro K C hret
  change K 0 0 _ [(0, .ref y), (1, .int (zI row)), (2, .int (zI pe))] 0 []
  have hUp := UK_set (wh := 0) (x := pe) hU (by omega)
  have hUq := UK_print hUp hrow
  refine y_aload_n C 0 dX6_rightBy_0 rfl ?_
  refine y_mcallv C (m_X6_putAside (l := l) (D := D) (cA := cA) (cB := cB) (y := y) (ms := ms) (ma := ma) (mp := mp) (mk := mk) (md := md) (me := me) (mo := mo) (np := np) (ik := ik) (ml := ml) (sp := sp) (wr := wr) (tp := tp) (bt := bt) (lf := lf) (rg := rg) (dp := dp) (u := u) (av := av) ) lk_X6_84 [0, 1, 2] [3] ⟨rfl, rfl, by decide, by decide, by decide⟩ (jb := 0) rfl rfl dX6_rightBy_1 rfl rfl ⟨by exact Nat.le_of_ble_eq_true rfl, by exact Nat.le_of_ble_eq_true rfl, rfl, rfl, by exact Nat.le_of_ble_eq_true rfl, by exact Nat.le_of_ble_eq_true rfl, by exact Nat.le_of_ble_eq_true rfl⟩ (fun w_4 h_1 => ?_)
  obtain ⟨av2_3, rfl, h_1⟩ := h_1
  refine ⟨[1, 2, 3, 0], [cO y 6 [.ref ms, .ref ma, .ref mp, .int (zI np), .ref mk, .int (zI ik), .ref md, .int (zI ml), .ref me, .ref mo, .int (zI sp), .int (zI wr), .int (zI tp), .int (zI bt), .int (zI lf), .int (zI rg), .int (zI dp)], cI cA ms 800 u, cI cA ma 800 av2_3, cI cA me 32 sn], ⟨rfl, by decide⟩, ?_⟩
  have ha := h_1
  refine y_aload_n C 0 dX6_rightBy_4 rfl ?_
  refine y_get C fg_X6_7 0 dX6_rightBy_5 rfl rfl ?_
  refine y_iconst C dX6_rightBy_8 ?_
  refine y_iload_n C 2 dX6_rightBy_9 rfl ?_
  refine y_iast C 1 0 [cO y 6 [.ref ms, .ref ma, .ref mp, .int (zI np), .ref mk, .int (zI ik), .ref md, .int (zI ml), .ref me, .ref mo, .int (zI sp), .int (zI wr), .int (zI tp), .int (zI bt), .int (zI lf), .int (zI rg), .int (zI dp)], cI cA ms 800 (zU u 0 pe), cI cA ma 800 av2_3, cI cA me 32 sn] dX6_rightBy_10 rfl rfl ⟨by omega, by omega, by omega⟩ rfl ?_
  refine y_aload_n C 0 dX6_rightBy_11 rfl ?_
  refine y_iload_n C 1 dX6_rightBy_12 rfl ?_
  refine y_mcallv C (m_X6_prints (l := l) (D := D) (cA := cA) (cB := cB) (y := y) (ms := ms) (ma := ma) (mp := mp) (mk := mk) (md := md) (me := me) (mo := mo) (np := np) (ik := ik) (ml := ml) (sp := sp) (wr := wr) (tp := tp) (bt := bt) (lf := lf) (rg := rg) (dp := dp) (u := zU u 0 pe) (row := row) (by first | assumption | omega | exact ⟨by omega, by omega⟩) (by exact hUp)) lk_X6_94 [0, 1] [2, 3] ⟨rfl, rfl, by decide, by decide, by decide⟩ (jb := 0) rfl rfl dX6_rightBy_13 rfl rfl ⟨by exact Nat.le_of_ble_eq_true rfl, by exact Nat.le_of_ble_eq_true rfl, rfl, rfl, by exact Nat.le_of_ble_eq_true rfl, by exact Nat.le_of_ble_eq_true rfl, by exact Nat.le_of_ble_eq_true rfl⟩ (fun w_8 h_5 => ?_)
  obtain ⟨u2_7, rfl, h_5⟩ := h_5
  refine ⟨[2, 3, 0, 1], [cO y 6 [.ref ms, .ref ma, .ref mp, .int (zI np), .ref mk, .int (zI ik), .ref md, .int (zI ml), .ref me, .ref mo, .int (zI sp), .int (zI wr), .int (zI tp), .int (zI bt), .int (zI lf), .int (zI rg), .int (zI dp)], cI cA ms 800 u2_7, cI cA ma 800 av2_3, cI cA me 32 sn], ⟨rfl, by decide⟩, ?_⟩
  have hl := h_5
  refine y_aload_n C 0 dX6_rightBy_16 rfl ?_
  refine y_iload_n C 1 dX6_rightBy_17 rfl ?_
  refine y_mcalli C (m_X6_rightOnes (l := l) (D := D) (cA := cA) (cB := cB) (y := y) (ms := ms) (ma := ma) (mp := mp) (mk := mk) (md := md) (me := me) (mo := mo) (np := np) (ik := ik) (ml := ml) (sp := sp) (wr := wr) (tp := tp) (bt := bt) (lf := lf) (rg := rg) (dp := dp) (u := u2_7) (sn := sn) (row := row) (by first | assumption | omega | exact ⟨by omega, by omega⟩) (by exact hUq.c hl)) lk_X6_74 [0, 1, 3] [2] ⟨rfl, rfl, by decide, by decide, by decide⟩ (jb := 0) rfl rfl dX6_rightBy_18 rfl rfl ⟨by exact Nat.le_of_ble_eq_true rfl, by exact Nat.le_of_ble_eq_true rfl, rfl, rfl, by exact Nat.le_of_ble_eq_true rfl, by exact Nat.le_of_ble_eq_true rfl, by exact Nat.le_of_ble_eq_true rfl⟩ (fun r_10 w_12 h_9 => ?_)
  obtain ⟨sn2_11, rfl, h_9⟩ := h_9
  refine ⟨[1, 2, 0, 3], [cO y 6 [.ref ms, .ref ma, .ref mp, .int (zI np), .ref mk, .int (zI ik), .ref md, .int (zI ml), .ref me, .ref mo, .int (zI sp), .int (zI wr), .int (zI tp), .int (zI bt), .int (zI lf), .int (zI rg), .int (zI dp)], cI cA ms 800 u2_7, cI cA ma 800 av2_3, cI cA me 32 sn2_11], ⟨rfl, by decide⟩, ?_⟩
  have hv := (h_9).1
  have hv2 := hv.1.trans ((rgtZ_congr hl ((hUq.c hl).s.1.1) hrow).trans (rgt_print hU hrow hpe))
  refine y_istore_n C [(3, .int (zI r_10)), (0, .ref y), (1, .int (zI row)), (2, .int (zI pe))] dX6_rightBy_21 (by decide) rfl ?_
  refine y_aload_n C 1 dX6_rightBy_22 rfl ?_
  refine y_mcallv C (m_X6_putBack (l := l) (D := D) (cA := cA) (cB := cB) (y := y) (ms := ms) (ma := ma) (mp := mp) (mk := mk) (md := md) (me := me) (mo := mo) (np := np) (ik := ik) (ml := ml) (sp := sp) (wr := wr) (tp := tp) (bt := bt) (lf := lf) (rg := rg) (dp := dp) (u := u2_7) (av := av2_3) ) lk_X6_202 [0, 1, 2] [3] ⟨rfl, rfl, by decide, by decide, by decide⟩ (jb := 0) rfl rfl dX6_rightBy_23 rfl rfl ⟨by exact Nat.le_of_ble_eq_true rfl, by exact Nat.le_of_ble_eq_true rfl, rfl, rfl, by exact Nat.le_of_ble_eq_true rfl, by exact Nat.le_of_ble_eq_true rfl, by exact Nat.le_of_ble_eq_true rfl⟩ (fun w_16 h_13 => ?_)
  obtain ⟨u2_15, rfl, h_13⟩ := h_13
  refine ⟨[1, 2, 3, 0], [cO y 6 [.ref ms, .ref ma, .ref mp, .int (zI np), .ref mk, .int (zI ik), .ref md, .int (zI ml), .ref me, .ref mo, .int (zI sp), .int (zI wr), .int (zI tp), .int (zI bt), .int (zI lf), .int (zI rg), .int (zI dp)], cI cA ms 800 u2_15, cI cA ma 800 av2_3, cI cA me 32 sn2_11], ⟨rfl, by decide⟩, ?_⟩
  have hb := h_13
  refine y_iload_n C 0 dX6_rightBy_26 rfl ?_
  refine hret _ _ _ _ dX6_rightBy_27 ⟨u2_15, av2_3, sn2_11, rfl, ?_⟩
  show (r_10 = rprZ u row pe ∧ 0 ≤ r_10 ∧ r_10 ≤ 32) ∧ (∀ j : Int, 0 ≤ j → j < 800 → u2_15 j = u j)
  exact ⟨⟨hv2, hv.2⟩, fun j a b => (hb j a b).trans (ha j a b)⟩

set_option maxHeartbeats 4000000 in
set_option maxRecDepth 100000 in
theorem m_X6_ifPrinted {l : Launch} {D : va_G} {cA cB : ClassId} {y ms ma mp mk md me mo : Nat} {np ik ml sp wr tp bt lf rg dp : Int} {u av sn : Int → Int} {row pe : Int} (hzrow : zR row) (hzpe : zR pe) (hU : UK u) : MI l yX6_ifPrinted cX6_ifPrinted 3 .int { frames := 7, cells := 0, slots := 0, locals := 167 } D (zT cA cB) [.ref y, .int (zI row), .int (zI pe)] [cO y 6 [.ref ms, .ref ma, .ref mp, .int (zI np), .ref mk, .int (zI ik), .ref md, .int (zI ml), .ref me, .ref mo, .int (zI sp), .int (zI wr), .int (zI tp), .int (zI bt), .int (zI lf), .int (zI rg), .int (zI dp)], cI cA ms 800 u, cI cA ma 800 av, cI cA me 32 sn] (fun r w => ∃ (u2 : Int → Int), ∃ (av2 : Int → Int), ∃ (sn2 : Int → Int), w = [cO y 6 [.ref ms, .ref ma, .ref mp, .int (zI np), .ref mk, .int (zI ik), .ref md, .int (zI ml), .ref me, .ref mo, .int (zI sp), .int (zI wr), .int (zI tp), .int (zI bt), .int (zI lf), .int (zI rg), .int (zI dp)], cI cA ms 800 u2, cI cA ma 800 av2, cI cA me 32 sn2] ∧ (r = ansIfPr u row pe) ∧ (∀ j : Int, 0 ≤ j → j < 800 → u2 j = u j)) := by
  refine MI.of RX6 ⟨rfl, by decide +kernel⟩ (Or.inl rfl) (Nat.le_of_ble_eq_true rfl) (fun h => by cases h) ?_
  intro K C hret
  change K 0 0 _ [(0, .ref y), (1, .int (zI row)), (2, .int (zI pe))] 0 []
  have hzrow1 := hzrow.1
  have hzrow2 := hzrow.2
  have hzpe1 := hzpe.1
  have hzpe2 := hzpe.2
  refine y_iload_n C 1 dX6_ifPrinted_0 rfl ?_
  refine y_pcalls C (m_X6_isRow (l := l) (D := D) (cA := cA) (cB := cB) (xx := row) (by first | assumption | exact ⟨by omega, by omega⟩)) lk_X6_78 [] [0, 1, 2, 3] [0, 1, 2, 3] ⟨rfl, rfl, by decide, by decide, by decide⟩ ⟨rfl, by decide⟩ dX6_ifPrinted_1 rfl rfl ⟨by exact Nat.le_of_ble_eq_true rfl, by exact Nat.le_of_ble_eq_true rfl, rfl, rfl, by exact Nat.le_of_ble_eq_true rfl, by exact Nat.le_of_ble_eq_true rfl, by exact Nat.le_of_ble_eq_true rfl⟩ (fun r_2 h_1 => ?_)
  refine y_if_eq C 27 dX6_ifPrinted_4 (by decide) ⟨by omega, by omega⟩ (fun c_3 => ?_) (fun c_3 => ?_)
  · refine y_iconst C dX6_ifPrinted_27 ?_
    refine hret _ _ _ _ dX6_ifPrinted_28 ⟨u, av, sn, rfl, ?_⟩
    show ((-1) = ansIfPr u row pe) ∧ (∀ j : Int, 0 ≤ j → j < 800 → u j = u j)
    unfold ansIfPr
    first | exact ⟨by rw [if_pos (by omega)]; exact hv, hb⟩ | exact ⟨by rw [if_neg (by omega)], fun _ _ _ => rfl⟩
  · refine y_iload_n C 2 dX6_ifPrinted_7 rfl ?_
    refine y_bipush C dX6_ifPrinted_8 (by decide +kernel) ?_
    refine y_bipush C dX6_ifPrinted_10 (by decide +kernel) ?_
    refine y_pcalls C (m_X6_in (l := l) (D := D) (cA := cA) (cB := cB) (vv := pe) (lo := 6) (hi := 16) (by first | assumption | exact ⟨by omega, by omega⟩) (by first | assumption | exact ⟨by omega, by omega⟩) (by first | assumption | exact ⟨by omega, by omega⟩)) lk_X6_31 [] [0, 1, 2, 3] [0, 1, 2, 3] ⟨rfl, rfl, by decide, by decide, by decide⟩ ⟨rfl, by decide⟩ dX6_ifPrinted_12 rfl rfl ⟨by exact Nat.le_of_ble_eq_true rfl, by exact Nat.le_of_ble_eq_true rfl, rfl, rfl, by exact Nat.le_of_ble_eq_true rfl, by exact Nat.le_of_ble_eq_true rfl, by exact Nat.le_of_ble_eq_true rfl⟩ (fun r_5 h_4 => ?_)
    refine y_if_eq C 27 dX6_ifPrinted_15 (by decide) ⟨by omega, by omega⟩ (fun c_6 => ?_) (fun c_6 => ?_)
    · refine y_iconst C dX6_ifPrinted_27 ?_
      refine hret _ _ _ _ dX6_ifPrinted_28 ⟨u, av, sn, rfl, ?_⟩
      show ((-1) = ansIfPr u row pe) ∧ (∀ j : Int, 0 ≤ j → j < 800 → u j = u j)
      unfold ansIfPr
      first | exact ⟨by rw [if_pos (by omega)]; exact hv, hb⟩ | exact ⟨by rw [if_neg (by omega)], fun _ _ _ => rfl⟩
    · refine y_aload_n C 0 dX6_ifPrinted_18 rfl ?_
      refine y_iload_n C 1 dX6_ifPrinted_19 rfl ?_
      refine y_iload_n C 2 dX6_ifPrinted_20 rfl ?_
      refine y_mcalli C (m_X6_rightBy (l := l) (D := D) (cA := cA) (cB := cB) (y := y) (ms := ms) (ma := ma) (mp := mp) (mk := mk) (md := md) (me := me) (mo := mo) (np := np) (ik := ik) (ml := ml) (sp := sp) (wr := wr) (tp := tp) (bt := bt) (lf := lf) (rg := rg) (dp := dp) (u := u) (av := av) (sn := sn) (row := row) (pe := pe) (by first | assumption | omega | exact ⟨by omega, by omega⟩) (by first | assumption | omega | exact ⟨by omega, by omega⟩) (by first | assumption | omega | exact ⟨by omega, by omega⟩)) lk_X6_205 [0, 1, 2, 3] [] ⟨rfl, rfl, by decide, by decide, by decide⟩ (jb := 0) rfl rfl dX6_ifPrinted_21 rfl rfl ⟨by exact Nat.le_of_ble_eq_true rfl, by exact Nat.le_of_ble_eq_true rfl, rfl, rfl, by exact Nat.le_of_ble_eq_true rfl, by exact Nat.le_of_ble_eq_true rfl, by exact Nat.le_of_ble_eq_true rfl⟩ (fun r_8 w_12 h_7 => ?_)
      obtain ⟨u2_9, av2_10, sn2_11, rfl, h_7⟩ := h_7
      refine ⟨[0, 1, 2, 3], [cO y 6 [.ref ms, .ref ma, .ref mp, .int (zI np), .ref mk, .int (zI ik), .ref md, .int (zI ml), .ref me, .ref mo, .int (zI sp), .int (zI wr), .int (zI tp), .int (zI bt), .int (zI lf), .int (zI rg), .int (zI dp)], cI cA ms 800 u2_9, cI cA ma 800 av2_10, cI cA me 32 sn2_11], ⟨rfl, by decide⟩, ?_⟩
      have hv := (h_7).1.1
      have hb := (h_7).2
      refine y_goto C 28 dX6_ifPrinted_24 (by decide) ?_
      refine hret _ _ _ _ dX6_ifPrinted_28 ⟨u2_9, av2_10, sn2_11, rfl, ?_⟩
      show (r_8 = ansIfPr u row pe) ∧ (∀ j : Int, 0 ≤ j → j < 800 → u2_9 j = u j)
      unfold ansIfPr
      first | exact ⟨by rw [if_pos (by omega)]; exact hv, hb⟩ | exact ⟨by rw [if_neg (by omega)], fun _ _ _ => rfl⟩

set_option maxHeartbeats 4000000 in
set_option maxRecDepth 100000 in
theorem m_X6_shortest {l : Launch} {D : va_G} {cA cB : ClassId} {y ms ma mp mk md me mo : Nat} {np ik ml sp wr tp bt lf rg dp : Int} {u av sn : Int → Int} {row : Int} (hzrow : zR row) (hU : UK u) : MI l yX6_shortest cX6_shortest 4 .int { frames := 7, cells := 0, slots := 0, locals := 167 } D (zT cA cB) [.ref y, .int (zI row)] [cO y 6 [.ref ms, .ref ma, .ref mp, .int (zI np), .ref mk, .int (zI ik), .ref md, .int (zI ml), .ref me, .ref mo, .int (zI sp), .int (zI wr), .int (zI tp), .int (zI bt), .int (zI lf), .int (zI rg), .int (zI dp)], cI cA ms 800 u, cI cA ma 800 av, cI cA me 32 sn] (fun r w => ∃ (u2 : Int → Int), ∃ (av2 : Int → Int), ∃ (sn2 : Int → Int), w = [cO y 6 [.ref ms, .ref ma, .ref mp, .int (zI np), .ref mk, .int (zI ik), .ref md, .int (zI ml), .ref me, .ref mo, .int (zI sp), .int (zI wr), .int (zI tp), .int (zI bt), .int (zI lf), .int (zI rg), .int (zI dp)], cI cA ms 800 u2, cI cA ma 800 av2, cI cA me 32 sn2] ∧ (r = ansShort u row) ∧ (∀ j : Int, 0 ≤ j → j < 800 → u2 j = u j)) := by
  refine MI.of RX6 ⟨rfl, by decide +kernel⟩ (Or.inl rfl) (Nat.le_of_ble_eq_true rfl) (fun h => by cases h) ?_
  intro K C hret
  change K 0 0 _ [(0, .ref y), (1, .int (zI row))] 0 []
  have hzrow1 := hzrow.1
  have hzrow2 := hzrow.2
  refine y_iload_n C 1 dX6_shortest_0 rfl ?_
  refine y_pcalls C (m_X6_isRow (l := l) (D := D) (cA := cA) (cB := cB) (xx := row) (by first | assumption | exact ⟨by omega, by omega⟩)) lk_X6_78 [] [0, 1, 2, 3] [0, 1, 2, 3] ⟨rfl, rfl, by decide, by decide, by decide⟩ ⟨rfl, by decide⟩ dX6_shortest_1 rfl rfl ⟨by exact Nat.le_of_ble_eq_true rfl, by exact Nat.le_of_ble_eq_true rfl, rfl, rfl, by exact Nat.le_of_ble_eq_true rfl, by exact Nat.le_of_ble_eq_true rfl, by exact Nat.le_of_ble_eq_true rfl⟩ (fun r_2 h_1 => ?_)
  refine y_if_ne C 9 dX6_shortest_4 (by decide) ⟨by omega, by omega⟩ (fun c_3 => ?_) (fun c_3 => ?_)
  · refine y_bipush C dX6_shortest_9 (by decide +kernel) ?_
    refine y_istore_n C [(2, .int (zI 6)), (0, .ref y), (1, .int (zI row))] dX6_shortest_11 (by decide) rfl ?_
    refine y_bipush C dX6_shortest_12 (by decide +kernel) ?_
    refine y_istore_n C [(3, .int (zI 7)), (2, .int (zI 6)), (0, .ref y), (1, .int (zI row))] dX6_shortest_14 (by decide) rfl ?_
    refine y_lsub C [2, 3, 1, 0] (lv' := [(0, .ref y), (1, .int (zI row)), (2, .int (zI 6)), (3, .int (zI 7))]) rfl ?_
    suffices hL15 : ∀ (fu : Nat) (best : Int) (pe : Int) (u1 : Int → Int) (a1 : Int → Int) (s1 : Int → Int), (7 ≤ pe ∧ pe ≤ 17) → (6 ≤ best ∧ best < pe ∧ ∀ k : Int, 6 ≤ k → k < pe → rprZ u row k < rprZ u row best ∨ (rprZ u row k = rprZ u row best ∧ best ≤ k)) → (∀ j : Int, 0 ≤ j → j < 800 → u1 j = u j) → (20 - pe).toNat < fu → K 0 0 [cO y 6 [.ref ms, .ref ma, .ref mp, .int (zI np), .ref mk, .int (zI ik), .ref md, .int (zI ml), .ref me, .ref mo, .int (zI sp), .int (zI wr), .int (zI tp), .int (zI bt), .int (zI lf), .int (zI rg), .int (zI dp)], cI cA ms 800 u1, cI cA ma 800 a1, cI cA me 32 s1] [(0, .ref y), (1, .int (zI row)), (2, .int (zI best)), (3, .int (zI pe))] 15 [] from hL15 _ 6 7 u av sn (by omega) (by exact ⟨by omega, by omega, fun k a b => Or.inr ⟨by rw [show k = 6 by omega], by omega⟩⟩) (by exact fun _ _ _ => rfl) (Nat.lt_succ_self _)
    intro f15
    induction f15 with
    | zero => exact fun _ _ _ _ _ _ _ _ hf => absurd hf (Nat.not_lt_zero _)
    | succ f15 ih15 =>
      intro best pe u1 a1 s1 hpe hbst hu1 hf15
      refine y_iload_n C 3 dX6_shortest_15 rfl ?_
      refine y_bipush C dX6_shortest_16 (by decide +kernel) ?_
      refine y_icmp_ge C 48 dX6_shortest_18 (by decide) ⟨⟨by omega, by omega⟩, ⟨by omega, by omega⟩⟩ (fun c_4 => ?_) (fun c_4 => ?_)
      · refine y_iload_n C 2 dX6_shortest_48 rfl ?_
        refine hret _ _ _ _ dX6_shortest_49 ⟨u1, a1, s1, rfl, ?_⟩
        show (best = ansShort u row) ∧ (∀ j : Int, 0 ≤ j → j < 800 → u1 j = u j)
        refine ⟨?_, hu1⟩
        unfold ansShort
        rw [if_pos (by omega)]
        obtain rfl : pe = 17 := by omega
        exact (bestZ_of ⟨hbst.1, by omega, fun k a b => hbst.2.2 k a (by omega)⟩).symm
      · refine y_aload_n C 0 dX6_shortest_21 rfl ?_
        refine y_iload_n C 1 dX6_shortest_22 rfl ?_
        refine y_iload_n C 3 dX6_shortest_23 rfl ?_
        refine y_mcalli C (m_X6_rightBy (l := l) (D := D) (cA := cA) (cB := cB) (y := y) (ms := ms) (ma := ma) (mp := mp) (mk := mk) (md := md) (me := me) (mo := mo) (np := np) (ik := ik) (ml := ml) (sp := sp) (wr := wr) (tp := tp) (bt := bt) (lf := lf) (rg := rg) (dp := dp) (u := u1) (av := a1) (sn := s1) (row := row) (pe := pe) (by first | assumption | omega | exact ⟨by omega, by omega⟩) (by first | assumption | omega | exact ⟨by omega, by omega⟩) (by exact hU.c hu1)) lk_X6_205 [0, 1, 2, 3] [] ⟨rfl, rfl, by decide, by decide, by decide⟩ (jb := 0) rfl rfl dX6_shortest_24 rfl rfl ⟨by exact Nat.le_of_ble_eq_true rfl, by exact Nat.le_of_ble_eq_true rfl, rfl, rfl, by exact Nat.le_of_ble_eq_true rfl, by exact Nat.le_of_ble_eq_true rfl, by exact Nat.le_of_ble_eq_true rfl⟩ (fun r_6 w_10 h_5 => ?_)
        obtain ⟨u2_7, av2_8, sn2_9, rfl, h_5⟩ := h_5
        refine ⟨[0, 1, 2, 3], [cO y 6 [.ref ms, .ref ma, .ref mp, .int (zI np), .ref mk, .int (zI ik), .ref md, .int (zI ml), .ref me, .ref mo, .int (zI sp), .int (zI wr), .int (zI tp), .int (zI bt), .int (zI lf), .int (zI rg), .int (zI dp)], cI cA ms 800 u2_7, cI cA ma 800 av2_8, cI cA me 32 sn2_9], ⟨rfl, by decide⟩, ?_⟩
        have hv1 := (h_5).1.1.trans (rprZ_congr hU hu1 ⟨by omega, by omega⟩ ⟨by omega, by omega⟩)
        have hr1 := (h_5).1.2
        have hb1 : ∀ j : Int, 0 ≤ j → j < 800 → u2_7 j = u j := fun j a b => ((h_5).2 j a b).trans (hu1 j a b)
        refine y_aload_n C 0 dX6_shortest_27 rfl ?_
        refine y_iload_n C 1 dX6_shortest_28 rfl ?_
        refine y_iload_n C 2 dX6_shortest_29 rfl ?_
        refine y_mcalli C (m_X6_rightBy (l := l) (D := D) (cA := cA) (cB := cB) (y := y) (ms := ms) (ma := ma) (mp := mp) (mk := mk) (md := md) (me := me) (mo := mo) (np := np) (ik := ik) (ml := ml) (sp := sp) (wr := wr) (tp := tp) (bt := bt) (lf := lf) (rg := rg) (dp := dp) (u := u2_7) (av := av2_8) (sn := sn2_9) (row := row) (pe := best) (by first | assumption | omega | exact ⟨by omega, by omega⟩) (by first | assumption | omega | exact ⟨by omega, by omega⟩) (by exact hU.c hb1)) lk_X6_205 [0, 1, 2, 3] [] ⟨rfl, rfl, by decide, by decide, by decide⟩ (jb := 0) rfl rfl dX6_shortest_30 rfl rfl ⟨by exact Nat.le_of_ble_eq_true rfl, by exact Nat.le_of_ble_eq_true rfl, rfl, rfl, by exact Nat.le_of_ble_eq_true rfl, by exact Nat.le_of_ble_eq_true rfl, by exact Nat.le_of_ble_eq_true rfl⟩ (fun r_12 w_16 h_11 => ?_)
        obtain ⟨u2_13, av2_14, sn2_15, rfl, h_11⟩ := h_11
        refine ⟨[0, 1, 2, 3], [cO y 6 [.ref ms, .ref ma, .ref mp, .int (zI np), .ref mk, .int (zI ik), .ref md, .int (zI ml), .ref me, .ref mo, .int (zI sp), .int (zI wr), .int (zI tp), .int (zI bt), .int (zI lf), .int (zI rg), .int (zI dp)], cI cA ms 800 u2_13, cI cA ma 800 av2_14, cI cA me 32 sn2_15], ⟨rfl, by decide⟩, ?_⟩
        have hv2 := (h_11).1.1.trans (rprZ_congr hU hb1 ⟨by omega, by omega⟩ ⟨by omega, by omega⟩)
        have hr2 := (h_11).1.2
        have hb2 : ∀ j : Int, 0 ≤ j → j < 800 → u2_13 j = u j := fun j a b => ((h_11).2 j a b).trans (hb1 j a b)
        refine y_icmp_le C 40 dX6_shortest_33 (by decide) ⟨⟨by omega, by omega⟩, ⟨by omega, by omega⟩⟩ (fun c_17 => ?_) (fun c_17 => ?_)
        · refine y_iload_n C 2 dX6_shortest_40 rfl ?_
          refine y_istore_n C [(2, .int (zI best)), (0, .ref y), (1, .int (zI row)), (3, .int (zI pe))] dX6_shortest_41 (by decide) rfl ?_
          refine y_iinc C 3 [(3, .int (zI (pe + 1))), (2, .int (zI best)), (0, .ref y), (1, .int (zI row))] dX6_shortest_42 rfl (by decide) rfl ?_
          refine y_goto C 15 dX6_shortest_45 (by decide) ?_
          refine y_lsub C [2, 3, 1, 0] (lv' := [(0, .ref y), (1, .int (zI row)), (2, .int (zI best)), (3, .int (zI (pe + 1)))]) rfl ?_
          exact ih15 best (pe + 1) u2_13 av2_14 sn2_15 (by omega) (by obtain ⟨b1, b2, b3⟩ := hbst; first | exact ⟨by omega, by omega, fun k a b => by rcases (show k < pe ∨ k = pe from by omega) with e | e; (have := b3 k a e; omega); (subst e; exact Or.inr ⟨rfl, Int.le_refl _⟩)⟩ | exact ⟨by omega, by omega, fun k a b => by rcases (show k < pe ∨ k = pe from by omega) with e | e; (exact b3 k a e); (subst e; omega)⟩) (by exact hb2) (by omega)
        · refine y_iload_n C 3 dX6_shortest_36 rfl ?_
          refine y_goto C 41 dX6_shortest_37 (by decide) ?_
          refine y_istore_n C [(2, .int (zI pe)), (0, .ref y), (1, .int (zI row)), (3, .int (zI pe))] dX6_shortest_41 (by decide) rfl ?_
          refine y_iinc C 3 [(3, .int (zI (pe + 1))), (2, .int (zI pe)), (0, .ref y), (1, .int (zI row))] dX6_shortest_42 rfl (by decide) rfl ?_
          refine y_goto C 15 dX6_shortest_45 (by decide) ?_
          refine y_lsub C [2, 3, 1, 0] (lv' := [(0, .ref y), (1, .int (zI row)), (2, .int (zI pe)), (3, .int (zI (pe + 1)))]) rfl ?_
          exact ih15 pe (pe + 1) u2_13 av2_14 sn2_15 (by omega) (by obtain ⟨b1, b2, b3⟩ := hbst; first | exact ⟨by omega, by omega, fun k a b => by rcases (show k < pe ∨ k = pe from by omega) with e | e; (have := b3 k a e; omega); (subst e; exact Or.inr ⟨rfl, Int.le_refl _⟩)⟩ | exact ⟨by omega, by omega, fun k a b => by rcases (show k < pe ∨ k = pe from by omega) with e | e; (exact b3 k a e); (subst e; omega)⟩) (by exact hb2) (by omega)
  · refine y_iconst C dX6_shortest_7 ?_
    refine hret _ _ _ _ dX6_shortest_8 ⟨u, av, sn, rfl, ?_⟩
    show ((-1) = ansShort u row) ∧ (∀ j : Int, 0 ≤ j → j < 800 → u j = u j)
    exact ⟨by unfold ansShort; rw [if_neg (by omega)], fun _ _ _ => rfl⟩

set_option maxHeartbeats 4000000 in
set_option maxRecDepth 100000 in
theorem m_X6_rightThrough {l : Launch} {D : va_G} {cA cB : ClassId} {y ms ma mp mk md me mo : Nat} {np ik ml sp wr tp bt lf rg dp : Int} {u sn : Int → Int} {row wn : Int} (hrow : 0 ≤ row ∧ row < 8) (hwn : 0 ≤ wn ∧ wn ≤ 3) (hU : UK u) : MI l yX6_rightThrough cX6_rightThrough 5 .int { frames := 6, cells := 0, slots := 0, locals := 144 } D (zT cA cB) [.ref y, .int (zI row), .int (zI wn)] [cO y 6 [.ref ms, .ref ma, .ref mp, .int (zI np), .ref mk, .int (zI ik), .ref md, .int (zI ml), .ref me, .ref mo, .int (zI sp), .int (zI wr), .int (zI tp), .int (zI bt), .int (zI lf), .int (zI rg), .int (zI dp)], cI cA ms 800 u, cI cA me 32 sn] (fun r w => ∃ (u2 : Int → Int), ∃ (sn2 : Int → Int), w = [cO y 6 [.ref ms, .ref ma, .ref mp, .int (zI np), .ref mk, .int (zI ik), .ref md, .int (zI ml), .ref me, .ref mo, .int (zI sp), .int (zI wr), .int (zI tp), .int (zI bt), .int (zI lf), .int (zI rg), .int (zI dp)], cI cA ms 800 u2, cI cA me 32 sn2] ∧ (r = rwnZ u row wn ∧ 0 ≤ r ∧ r ≤ 32) ∧ (∀ j : Int, 0 ≤ j → j < 800 → u2 j = u j)) := by
  refine MI.of RX6 ⟨rfl, by decide +kernel⟩ (Or.inl rfl) (Nat.le_of_ble_eq_true rfl) (fun h => by cases h) ?_
  intro K C hret
  change K 0 0 _ [(0, .ref y), (1, .int (zI row)), (2, .int (zI wn))] 0 []
  have hUp := UK_set (wh := 2) (x := wn) hU (by omega)
  refine y_aload_n C 0 dX6_rightThrough_0 rfl ?_
  refine y_get C fg_X6_7 0 dX6_rightThrough_1 rfl rfl ?_
  refine y_iconst C dX6_rightThrough_4 ?_
  refine y_iald C 1 0 dX6_rightThrough_5 rfl rfl ⟨by omega, by omega, by omega⟩ ?_
  refine y_istore_n C [(3, .int (zI (u 2))), (0, .ref y), (1, .int (zI row)), (2, .int (zI wn))] dX6_rightThrough_6 (by decide) rfl ?_
  refine y_aload_n C 1 dX6_rightThrough_7 rfl ?_
  refine y_get C fg_X6_7 0 dX6_rightThrough_8 rfl rfl ?_
  refine y_iconst C dX6_rightThrough_11 ?_
  refine y_iload_n C 3 dX6_rightThrough_12 rfl ?_
  refine y_iast C 1 0 [cO y 6 [.ref ms, .ref ma, .ref mp, .int (zI np), .ref mk, .int (zI ik), .ref md, .int (zI ml), .ref me, .ref mo, .int (zI sp), .int (zI wr), .int (zI tp), .int (zI bt), .int (zI lf), .int (zI rg), .int (zI dp)], cI cA ms 800 (zU u 2 wn), cI cA me 32 sn] dX6_rightThrough_13 rfl rfl ⟨by omega, by omega, by omega⟩ rfl ?_
  refine y_aload_n C 1 dX6_rightThrough_14 rfl ?_
  refine y_iload_n C 2 dX6_rightThrough_15 rfl ?_
  refine y_mcalli C (m_X6_rightOnes (l := l) (D := D) (cA := cA) (cB := cB) (y := y) (ms := ms) (ma := ma) (mp := mp) (mk := mk) (md := md) (me := me) (mo := mo) (np := np) (ik := ik) (ml := ml) (sp := sp) (wr := wr) (tp := tp) (bt := bt) (lf := lf) (rg := rg) (dp := dp) (u := zU u 2 wn) (sn := sn) (row := row) (by first | assumption | omega | exact ⟨by omega, by omega⟩) (by exact hUp)) lk_X6_74 [0, 1, 2] [] ⟨rfl, rfl, by decide, by decide, by decide⟩ (jb := 0) rfl rfl dX6_rightThrough_16 rfl rfl ⟨by exact Nat.le_of_ble_eq_true rfl, by exact Nat.le_of_ble_eq_true rfl, rfl, rfl, by exact Nat.le_of_ble_eq_true rfl, by exact Nat.le_of_ble_eq_true rfl, by exact Nat.le_of_ble_eq_true rfl⟩ (fun r_2 w_4 h_1 => ?_)
  obtain ⟨sn2_3, rfl, h_1⟩ := h_1
  refine ⟨[0, 1, 2], [cO y 6 [.ref ms, .ref ma, .ref mp, .int (zI np), .ref mk, .int (zI ik), .ref md, .int (zI ml), .ref me, .ref mo, .int (zI sp), .int (zI wr), .int (zI tp), .int (zI bt), .int (zI lf), .int (zI rg), .int (zI dp)], cI cA ms 800 (zU u 2 wn), cI cA me 32 sn2_3], ⟨rfl, by decide⟩, ?_⟩
  have hv := (h_1).1
  have hv2 := hv.1.trans (rgt_win hU.s.1.1 hrow)
  refine y_istore C [(4, .int (zI r_2)), (3, .int (zI (u 2))), (0, .ref y), (1, .int (zI row)), (2, .int (zI wn))] dX6_rightThrough_19 (by decide) rfl ?_
  refine y_aload_n C 2 dX6_rightThrough_21 rfl ?_
  refine y_get C fg_X6_7 0 dX6_rightThrough_22 rfl rfl ?_
  refine y_iconst C dX6_rightThrough_25 ?_
  refine y_iload_n C 1 dX6_rightThrough_26 rfl ?_
  refine y_iast C 1 0 [cO y 6 [.ref ms, .ref ma, .ref mp, .int (zI np), .ref mk, .int (zI ik), .ref md, .int (zI ml), .ref me, .ref mo, .int (zI sp), .int (zI wr), .int (zI tp), .int (zI bt), .int (zI lf), .int (zI rg), .int (zI dp)], cI cA ms 800 (zU (zU u 2 wn) 2 (u 2)), cI cA me 32 sn2_3] dX6_rightThrough_27 rfl rfl ⟨by omega, by omega, by omega⟩ rfl ?_
  refine y_iload C 0 dX6_rightThrough_28 rfl ?_
  refine hret _ _ _ _ dX6_rightThrough_30 ⟨(zU (zU u 2 wn) 2 (u 2)), sn2_3, rfl, ?_⟩
  show (r_2 = rwnZ u row wn ∧ 0 ≤ r_2 ∧ r_2 ≤ 32) ∧ (∀ j : Int, 0 ≤ j → j < 800 → (zU (zU u 2 wn) 2 (u 2)) j = u j)
  exact ⟨⟨hv2, hv.2⟩, zU_back rfl⟩

set_option maxHeartbeats 4000000 in
set_option maxRecDepth 100000 in
theorem m_X6_bestWindow {l : Launch} {D : va_G} {cA cB : ClassId} {y ms ma mp mk md me mo : Nat} {np ik ml sp wr tp bt lf rg dp : Int} {u sn : Int → Int} {row : Int} (hzrow : zR row) (hU : UK u) : MI l yX6_bestWindow cX6_bestWindow 4 .int { frames := 7, cells := 0, slots := 0, locals := 168 } D (zT cA cB) [.ref y, .int (zI row)] [cO y 6 [.ref ms, .ref ma, .ref mp, .int (zI np), .ref mk, .int (zI ik), .ref md, .int (zI ml), .ref me, .ref mo, .int (zI sp), .int (zI wr), .int (zI tp), .int (zI bt), .int (zI lf), .int (zI rg), .int (zI dp)], cI cA ms 800 u, cI cA me 32 sn] (fun r w => ∃ (u2 : Int → Int), ∃ (sn2 : Int → Int), w = [cO y 6 [.ref ms, .ref ma, .ref mp, .int (zI np), .ref mk, .int (zI ik), .ref md, .int (zI ml), .ref me, .ref mo, .int (zI sp), .int (zI wr), .int (zI tp), .int (zI bt), .int (zI lf), .int (zI rg), .int (zI dp)], cI cA ms 800 u2, cI cA me 32 sn2] ∧ (r = ansBestW u row) ∧ (∀ j : Int, 0 ≤ j → j < 800 → u2 j = u j)) := by
  refine MI.of RX6 ⟨rfl, by decide +kernel⟩ (Or.inl rfl) (Nat.le_of_ble_eq_true rfl) (fun h => by cases h) ?_
  intro K C hret
  change K 0 0 _ [(0, .ref y), (1, .int (zI row))] 0 []
  have hzrow1 := hzrow.1
  have hzrow2 := hzrow.2
  refine y_iload_n C 1 dX6_bestWindow_0 rfl ?_
  refine y_pcalls C (m_X6_isRow (l := l) (D := D) (cA := cA) (cB := cB) (xx := row) (by first | assumption | exact ⟨by omega, by omega⟩)) lk_X6_78 [] [0, 1, 2] [0, 1, 2] ⟨rfl, rfl, by decide, by decide, by decide⟩ ⟨rfl, by decide⟩ dX6_bestWindow_1 rfl rfl ⟨by exact Nat.le_of_ble_eq_true rfl, by exact Nat.le_of_ble_eq_true rfl, rfl, rfl, by exact Nat.le_of_ble_eq_true rfl, by exact Nat.le_of_ble_eq_true rfl, by exact Nat.le_of_ble_eq_true rfl⟩ (fun r_2 h_1 => ?_)
  refine y_if_ne C 9 dX6_bestWindow_4 (by decide) ⟨by omega, by omega⟩ (fun c_3 => ?_) (fun c_3 => ?_)
  · refine y_iconst C dX6_bestWindow_9 ?_
    refine y_istore_n C [(2, .int (zI 0)), (0, .ref y), (1, .int (zI row))] dX6_bestWindow_10 (by decide) rfl ?_
    refine y_iconst C dX6_bestWindow_11 ?_
    refine y_istore_n C [(3, .int (zI 1)), (2, .int (zI 0)), (0, .ref y), (1, .int (zI row))] dX6_bestWindow_12 (by decide) rfl ?_
    refine y_lsub C [2, 3, 1, 0] (lv' := [(0, .ref y), (1, .int (zI row)), (2, .int (zI 0)), (3, .int (zI 1))]) rfl ?_
    suffices hL13 : ∀ (fu : Nat) (best : Int) (wn : Int) (u1 : Int → Int) (s1 : Int → Int), (1 ≤ wn ∧ wn ≤ 4) → (0 ≤ best ∧ best < wn ∧ ∀ k : Int, 0 ≤ k → k < wn → rwnZ u row k < rwnZ u row best ∨ (rwnZ u row k = rwnZ u row best ∧ best ≤ k)) → (∀ j : Int, 0 ≤ j → j < 800 → u1 j = u j) → (20 - wn).toNat < fu → K 0 0 [cO y 6 [.ref ms, .ref ma, .ref mp, .int (zI np), .ref mk, .int (zI ik), .ref md, .int (zI ml), .ref me, .ref mo, .int (zI sp), .int (zI wr), .int (zI tp), .int (zI bt), .int (zI lf), .int (zI rg), .int (zI dp)], cI cA ms 800 u1, cI cA me 32 s1] [(0, .ref y), (1, .int (zI row)), (2, .int (zI best)), (3, .int (zI wn))] 13 [] from hL13 _ 0 1 u sn (by omega) (by exact ⟨by omega, by omega, fun k a b => Or.inr ⟨by rw [show k = 0 by omega], by omega⟩⟩) (by exact fun _ _ _ => rfl) (Nat.lt_succ_self _)
    intro f13
    induction f13 with
    | zero => exact fun _ _ _ _ _ _ _ hf => absurd hf (Nat.not_lt_zero _)
    | succ f13 ih13 =>
      intro best wn u1 s1 hwn hbst hu1 hf13
      refine y_iload_n C 3 dX6_bestWindow_13 rfl ?_
      refine y_iconst C dX6_bestWindow_14 ?_
      refine y_icmp_ge C 45 dX6_bestWindow_15 (by decide) ⟨⟨by omega, by omega⟩, ⟨by omega, by omega⟩⟩ (fun c_4 => ?_) (fun c_4 => ?_)
      · refine y_iload_n C 2 dX6_bestWindow_45 rfl ?_
        refine hret _ _ _ _ dX6_bestWindow_46 ⟨u1, s1, rfl, ?_⟩
        show (best = ansBestW u row) ∧ (∀ j : Int, 0 ≤ j → j < 800 → u1 j = u j)
        refine ⟨?_, hu1⟩
        unfold ansBestW
        rw [if_pos (by omega)]
        obtain rfl : wn = 4 := by omega
        exact (bestZ_of ⟨hbst.1, by omega, fun k a b => hbst.2.2 k a (by omega)⟩).symm
      · refine y_aload_n C 0 dX6_bestWindow_18 rfl ?_
        refine y_iload_n C 1 dX6_bestWindow_19 rfl ?_
        refine y_iload_n C 3 dX6_bestWindow_20 rfl ?_
        refine y_mcalli C (m_X6_rightThrough (l := l) (D := D) (cA := cA) (cB := cB) (y := y) (ms := ms) (ma := ma) (mp := mp) (mk := mk) (md := md) (me := me) (mo := mo) (np := np) (ik := ik) (ml := ml) (sp := sp) (wr := wr) (tp := tp) (bt := bt) (lf := lf) (rg := rg) (dp := dp) (u := u1) (sn := s1) (row := row) (wn := wn) (by first | assumption | omega | exact ⟨by omega, by omega⟩) (by first | assumption | omega | exact ⟨by omega, by omega⟩) (by exact hU.c hu1)) lk_X6_208 [0, 1, 2] [] ⟨rfl, rfl, by decide, by decide, by decide⟩ (jb := 0) rfl rfl dX6_bestWindow_21 rfl rfl ⟨by exact Nat.le_of_ble_eq_true rfl, by exact Nat.le_of_ble_eq_true rfl, rfl, rfl, by exact Nat.le_of_ble_eq_true rfl, by exact Nat.le_of_ble_eq_true rfl, by exact Nat.le_of_ble_eq_true rfl⟩ (fun r_6 w_9 h_5 => ?_)
        obtain ⟨u2_7, sn2_8, rfl, h_5⟩ := h_5
        refine ⟨[0, 1, 2], [cO y 6 [.ref ms, .ref ma, .ref mp, .int (zI np), .ref mk, .int (zI ik), .ref md, .int (zI ml), .ref me, .ref mo, .int (zI sp), .int (zI wr), .int (zI tp), .int (zI bt), .int (zI lf), .int (zI rg), .int (zI dp)], cI cA ms 800 u2_7, cI cA me 32 sn2_8], ⟨rfl, by decide⟩, ?_⟩
        have hv1 := (h_5).1.1.trans (rwnZ_congr (w := wn) hU hu1 ⟨by omega, by omega⟩)
        have hr1 := (h_5).1.2
        have hb1 : ∀ j : Int, 0 ≤ j → j < 800 → u2_7 j = u j := fun j a b => ((h_5).2 j a b).trans (hu1 j a b)
        refine y_aload_n C 0 dX6_bestWindow_24 rfl ?_
        refine y_iload_n C 1 dX6_bestWindow_25 rfl ?_
        refine y_iload_n C 2 dX6_bestWindow_26 rfl ?_
        refine y_mcalli C (m_X6_rightThrough (l := l) (D := D) (cA := cA) (cB := cB) (y := y) (ms := ms) (ma := ma) (mp := mp) (mk := mk) (md := md) (me := me) (mo := mo) (np := np) (ik := ik) (ml := ml) (sp := sp) (wr := wr) (tp := tp) (bt := bt) (lf := lf) (rg := rg) (dp := dp) (u := u2_7) (sn := sn2_8) (row := row) (wn := best) (by first | assumption | omega | exact ⟨by omega, by omega⟩) (by first | assumption | omega | exact ⟨by omega, by omega⟩) (by exact hU.c hb1)) lk_X6_208 [0, 1, 2] [] ⟨rfl, rfl, by decide, by decide, by decide⟩ (jb := 0) rfl rfl dX6_bestWindow_27 rfl rfl ⟨by exact Nat.le_of_ble_eq_true rfl, by exact Nat.le_of_ble_eq_true rfl, rfl, rfl, by exact Nat.le_of_ble_eq_true rfl, by exact Nat.le_of_ble_eq_true rfl, by exact Nat.le_of_ble_eq_true rfl⟩ (fun r_11 w_14 h_10 => ?_)
        obtain ⟨u2_12, sn2_13, rfl, h_10⟩ := h_10
        refine ⟨[0, 1, 2], [cO y 6 [.ref ms, .ref ma, .ref mp, .int (zI np), .ref mk, .int (zI ik), .ref md, .int (zI ml), .ref me, .ref mo, .int (zI sp), .int (zI wr), .int (zI tp), .int (zI bt), .int (zI lf), .int (zI rg), .int (zI dp)], cI cA ms 800 u2_12, cI cA me 32 sn2_13], ⟨rfl, by decide⟩, ?_⟩
        have hv2 := (h_10).1.1.trans (rwnZ_congr (w := best) hU hb1 ⟨by omega, by omega⟩)
        have hr2 := (h_10).1.2
        have hb2 : ∀ j : Int, 0 ≤ j → j < 800 → u2_12 j = u j := fun j a b => ((h_10).2 j a b).trans (hb1 j a b)
        refine y_icmp_le C 37 dX6_bestWindow_30 (by decide) ⟨⟨by omega, by omega⟩, ⟨by omega, by omega⟩⟩ (fun c_15 => ?_) (fun c_15 => ?_)
        · refine y_iload_n C 2 dX6_bestWindow_37 rfl ?_
          refine y_istore_n C [(2, .int (zI best)), (0, .ref y), (1, .int (zI row)), (3, .int (zI wn))] dX6_bestWindow_38 (by decide) rfl ?_
          refine y_iinc C 3 [(3, .int (zI (wn + 1))), (2, .int (zI best)), (0, .ref y), (1, .int (zI row))] dX6_bestWindow_39 rfl (by decide) rfl ?_
          refine y_goto C 13 dX6_bestWindow_42 (by decide) ?_
          refine y_lsub C [2, 3, 1, 0] (lv' := [(0, .ref y), (1, .int (zI row)), (2, .int (zI best)), (3, .int (zI (wn + 1)))]) rfl ?_
          exact ih13 best (wn + 1) u2_12 sn2_13 (by omega) (by obtain ⟨b1, b2, b3⟩ := hbst; first | exact ⟨by omega, by omega, fun k a b => by rcases (show k < wn ∨ k = wn from by omega) with e | e; (have := b3 k a e; omega); (subst e; exact Or.inr ⟨rfl, Int.le_refl _⟩)⟩ | exact ⟨by omega, by omega, fun k a b => by rcases (show k < wn ∨ k = wn from by omega) with e | e; (exact b3 k a e); (subst e; omega)⟩) (by exact hb2) (by omega)
        · refine y_iload_n C 3 dX6_bestWindow_33 rfl ?_
          refine y_goto C 38 dX6_bestWindow_34 (by decide) ?_
          refine y_istore_n C [(2, .int (zI wn)), (0, .ref y), (1, .int (zI row)), (3, .int (zI wn))] dX6_bestWindow_38 (by decide) rfl ?_
          refine y_iinc C 3 [(3, .int (zI (wn + 1))), (2, .int (zI wn)), (0, .ref y), (1, .int (zI row))] dX6_bestWindow_39 rfl (by decide) rfl ?_
          refine y_goto C 13 dX6_bestWindow_42 (by decide) ?_
          refine y_lsub C [2, 3, 1, 0] (lv' := [(0, .ref y), (1, .int (zI row)), (2, .int (zI wn)), (3, .int (zI (wn + 1)))]) rfl ?_
          exact ih13 wn (wn + 1) u2_12 sn2_13 (by omega) (by obtain ⟨b1, b2, b3⟩ := hbst; first | exact ⟨by omega, by omega, fun k a b => by rcases (show k < wn ∨ k = wn from by omega) with e | e; (have := b3 k a e; omega); (subst e; exact Or.inr ⟨rfl, Int.le_refl _⟩)⟩ | exact ⟨by omega, by omega, fun k a b => by rcases (show k < wn ∨ k = wn from by omega) with e | e; (exact b3 k a e); (subst e; omega)⟩) (by exact hb2) (by omega)
  · refine y_iconst C dX6_bestWindow_7 ?_
    refine hret _ _ _ _ dX6_bestWindow_8 ⟨u, sn, rfl, ?_⟩
    show ((-1) = ansBestW u row) ∧ (∀ j : Int, 0 ≤ j → j < 800 → u j = u j)
    exact ⟨by unfold ansBestW; rw [if_neg (by omega)], fun _ _ _ => rfl⟩

set_option maxHeartbeats 4000000 in
set_option maxRecDepth 100000 in
theorem m_X6_alike {l : Launch} {D : va_G} {cA cB : ClassId} {y ms ma mp mk md me mo : Nat} {np ik ml sp wr tp bt lf rg dp : Int} {u sn so : Int → Int} {row q : Int} (hzrow : zR row) (hzq : zR q) (hU : UK u) : MI l yX6_alike cX6_alike 3 .int { frames := 7, cells := 0, slots := 0, locals := 167 } D (zT cA cB) [.ref y, .int (zI row), .int (zI q)] [cO y 6 [.ref ms, .ref ma, .ref mp, .int (zI np), .ref mk, .int (zI ik), .ref md, .int (zI ml), .ref me, .ref mo, .int (zI sp), .int (zI wr), .int (zI tp), .int (zI bt), .int (zI lf), .int (zI rg), .int (zI dp)], cI cA ms 800 u, cI cA me 32 sn, cI cA mo 32 so] (fun r w => ∃ (sn2 : Int → Int), ∃ (so2 : Int → Int), w = [cO y 6 [.ref ms, .ref ma, .ref mp, .int (zI np), .ref mk, .int (zI ik), .ref md, .int (zI ml), .ref me, .ref mo, .int (zI sp), .int (zI wr), .int (zI tp), .int (zI bt), .int (zI lf), .int (zI rg), .int (zI dp)], cI cA ms 800 u, cI cA me 32 sn2, cI cA mo 32 so2] ∧ (r = ansAlike u row q)) := by
  refine MI.of RX6 ⟨rfl, by decide +kernel⟩ (Or.inl rfl) (Nat.le_of_ble_eq_true rfl) (fun h => by cases h) ?_
  intro K C hret
  change K 0 0 _ [(0, .ref y), (1, .int (zI row)), (2, .int (zI q))] 0 []
  have hzrow1 := hzrow.1
  have hzrow2 := hzrow.2
  have hzq1 := hzq.1
  have hzq2 := hzq.2
  refine y_iload_n C 1 dX6_alike_0 rfl ?_
  refine y_pcalls C (m_X6_isRow (l := l) (D := D) (cA := cA) (cB := cB) (xx := row) (by first | assumption | exact ⟨by omega, by omega⟩)) lk_X6_78 [] [0, 1, 2, 3] [0, 1, 2, 3] ⟨rfl, rfl, by decide, by decide, by decide⟩ ⟨rfl, by decide⟩ dX6_alike_1 rfl rfl ⟨by exact Nat.le_of_ble_eq_true rfl, by exact Nat.le_of_ble_eq_true rfl, rfl, rfl, by exact Nat.le_of_ble_eq_true rfl, by exact Nat.le_of_ble_eq_true rfl, by exact Nat.le_of_ble_eq_true rfl⟩ (fun r_2 h_1 => ?_)
  refine y_if_eq C 23 dX6_alike_4 (by decide) ⟨by omega, by omega⟩ (fun c_3 => ?_) (fun c_3 => ?_)
  · refine y_iconst C dX6_alike_23 ?_
    refine hret _ _ _ _ dX6_alike_24 ⟨sn, so, rfl, ?_⟩
    show ((-1) = ansAlike u row q)
    unfold ansAlike
    first | (rw [if_pos (by omega)]; exact hv) | (rw [if_neg (by omega)])
  · refine y_iload_n C 2 dX6_alike_7 rfl ?_
    refine y_pcalls C (m_X6_isRow (l := l) (D := D) (cA := cA) (cB := cB) (xx := q) (by first | assumption | exact ⟨by omega, by omega⟩)) lk_X6_78 [] [0, 1, 2, 3] [0, 1, 2, 3] ⟨rfl, rfl, by decide, by decide, by decide⟩ ⟨rfl, by decide⟩ dX6_alike_8 rfl rfl ⟨by exact Nat.le_of_ble_eq_true rfl, by exact Nat.le_of_ble_eq_true rfl, rfl, rfl, by exact Nat.le_of_ble_eq_true rfl, by exact Nat.le_of_ble_eq_true rfl, by exact Nat.le_of_ble_eq_true rfl⟩ (fun r_5 h_4 => ?_)
    refine y_if_eq C 23 dX6_alike_11 (by decide) ⟨by omega, by omega⟩ (fun c_6 => ?_) (fun c_6 => ?_)
    · refine y_iconst C dX6_alike_23 ?_
      refine hret _ _ _ _ dX6_alike_24 ⟨sn, so, rfl, ?_⟩
      show ((-1) = ansAlike u row q)
      unfold ansAlike
      first | (rw [if_pos (by omega)]; exact hv) | (rw [if_neg (by omega)])
    · refine y_aload_n C 0 dX6_alike_14 rfl ?_
      refine y_iload_n C 1 dX6_alike_15 rfl ?_
      refine y_iload_n C 2 dX6_alike_16 rfl ?_
      refine y_mcalli C (m_X6_likes (l := l) (D := D) (cA := cA) (cB := cB) (y := y) (ms := ms) (ma := ma) (mp := mp) (mk := mk) (md := md) (me := me) (mo := mo) (np := np) (ik := ik) (ml := ml) (sp := sp) (wr := wr) (tp := tp) (bt := bt) (lf := lf) (rg := rg) (dp := dp) (u := u) (sn := sn) (so := so) (row := row) (q := q) (by first | assumption | omega | exact ⟨by omega, by omega⟩) (by first | assumption | omega | exact ⟨by omega, by omega⟩) (by first | assumption | omega | exact ⟨by omega, by omega⟩)) lk_X6_188 [0, 1, 2, 3] [] ⟨rfl, rfl, by decide, by decide, by decide⟩ (jb := 0) rfl rfl dX6_alike_17 rfl rfl ⟨by exact Nat.le_of_ble_eq_true rfl, by exact Nat.le_of_ble_eq_true rfl, rfl, rfl, by exact Nat.le_of_ble_eq_true rfl, by exact Nat.le_of_ble_eq_true rfl, by exact Nat.le_of_ble_eq_true rfl⟩ (fun r_8 w_11 h_7 => ?_)
      obtain ⟨sn2_9, so2_10, rfl, h_7⟩ := h_7
      refine ⟨[0, 1, 2, 3], [cO y 6 [.ref ms, .ref ma, .ref mp, .int (zI np), .ref mk, .int (zI ik), .ref md, .int (zI ml), .ref me, .ref mo, .int (zI sp), .int (zI wr), .int (zI tp), .int (zI bt), .int (zI lf), .int (zI rg), .int (zI dp)], cI cA ms 800 u, cI cA me 32 sn2_9, cI cA mo 32 so2_10], ⟨rfl, by decide⟩, ?_⟩
      have hv := (h_7).1
      refine y_goto C 24 dX6_alike_20 (by decide) ?_
      refine hret _ _ _ _ dX6_alike_24 ⟨sn2_9, so2_10, rfl, ?_⟩
      show (r_8 = ansAlike u row q)
      unfold ansAlike
      first | (rw [if_pos (by omega)]; exact hv) | (rw [if_neg (by omega)])
