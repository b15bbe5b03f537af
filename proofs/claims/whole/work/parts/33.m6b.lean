set_option maxHeartbeats 4000000 in
set_option maxRecDepth 100000 in
theorem m_X6_looks {l : Launch} {D : va_G} {cA cB : ClassId} {y ms ma mp mk md me mo : Nat} {np ik ml sp wr tp bt lf rg dp : Int} {u sn : Int → Int} {row : Int} (hrow : 0 ≤ row ∧ row < 8) (hU : UK u) : MV l yX6_looks cX6_looks 5 { frames := 4, cells := 0, slots := 0, locals := 97 } D (zT cA cB) [.ref y, .int (zI row)] [cO y 6 [.ref ms, .ref ma, .ref mp, .int (zI np), .ref mk, .int (zI ik), .ref md, .int (zI ml), .ref me, .ref mo, .int (zI sp), .int (zI wr), .int (zI tp), .int (zI bt), .int (zI lf), .int (zI rg), .int (zI dp)], cI cA ms 800 u, cI cA me 32 sn] (fun w => ∃ (sn2 : Int → Int), w = [cO y 6 [.ref ms, .ref ma, .ref mp, .int (zI np), .ref mk, .int (zI ik), .ref md, .int (zI ml), .ref me, .ref mo, .int (zI sp), .int (zI wr), .int (zI tp), .int (zI bt), .int (zI lf), .int (zI rg), .int (zI dp)], cI cA ms 800 u, cI cA me 32 sn2] ∧ (∀ k : Int, 0 ≤ k → k < 32 → sn2 k = sm1 (seeR u row k))) := by
  refine MV.of RX6 ⟨rfl, by decide +kernel⟩ (Nat.le_of_ble_eq_true rfl) ?_
  intro K C hret
  change K 0 0 _ [(0, .ref y), (1, .int (zI row))] 0 []
  have hus := hU.s
  have hup := hU.p
  have hud := hU.d
  have huk := hU.k
  have hul := hU.len
  have hut := hU.lot
  refine y_iconst C dX6_looks_0 ?_
  refine y_istore_n C [(2, .int (zI 0)), (0, .ref y), (1, .int (zI row))] dX6_looks_1 (by decide) rfl ?_
  refine y_iconst C dX6_looks_2 ?_
  refine y_istore_n C [(3, .int (zI 0)), (2, .int (zI 0)), (0, .ref y), (1, .int (zI row))] dX6_looks_3 (by decide) rfl ?_
  refine y_lsub C [2, 3, 1, 0] (lv' := [(0, .ref y), (1, .int (zI row)), (2, .int (zI 0)), (3, .int (zI 0))]) rfl ?_
  suffices hL4 : ∀ (fu : Nat) (had : Int) (c : Int) (s1 : Int → Int), (0 ≤ c ∧ c ≤ 32) → (had = hadZ (u 0) (u 2) (zd u row) c ∧ 0 ≤ had ∧ had ≤ 4) → (∀ k : Int, 0 ≤ k → k < c → s1 k = sm1 (seeR u row k)) → (32 - c).toNat < fu → K 0 0 [cO y 6 [.ref ms, .ref ma, .ref mp, .int (zI np), .ref mk, .int (zI ik), .ref md, .int (zI ml), .ref me, .ref mo, .int (zI sp), .int (zI wr), .int (zI tp), .int (zI bt), .int (zI lf), .int (zI rg), .int (zI dp)], cI cA ms 800 u, cI cA me 32 s1] [(0, .ref y), (1, .int (zI row)), (2, .int (zI had)), (3, .int (zI c))] 4 [] from hL4 _ 0 0 sn (by omega) (by exact ⟨(hadZ_0 _ _ _).symm, by omega, by omega⟩) (by intro k a b; omega) (Nat.lt_succ_self _)
  intro f4
  induction f4 with
  | zero => exact fun _ _ _ _ _ _ hf => absurd hf (Nat.not_lt_zero _)
  | succ f4 ih4 =>
    intro had c s1 hc hhad hs hf4
    refine y_iload_n C 3 dX6_looks_4 rfl ?_
    refine y_bipush C dX6_looks_5 (by decide +kernel) ?_
    refine y_icmp_ge C 73 dX6_looks_7 (by decide) ⟨⟨by omega, by omega⟩, ⟨by omega, by omega⟩⟩ (fun c_1 => ?_) (fun c_1 => ?_)
    · refine hret _ _ _ dX6_looks_73 ⟨s1, rfl, ?_⟩
      show (∀ k : Int, 0 ≤ k → k < 32 → s1 k = sm1 (seeR u row k))
      exact fun k a b => hs k a (by omega)
    · refine y_aload_n C 0 dX6_looks_10 rfl ?_
      refine y_iload_n C 1 dX6_looks_11 rfl ?_
      refine y_iload_n C 3 dX6_looks_12 rfl ?_
      refine y_iload_n C 2 dX6_looks_13 rfl ?_
      refine y_pcall C (m_X6_nearest (l := l) (D := D) (cA := cA) (cB := cB) (y := y) (ms := ms) (ma := ma) (mp := mp) (mk := mk) (md := md) (me := me) (mo := mo) (np := np) (ik := ik) (ml := ml) (sp := sp) (wr := wr) (tp := tp) (bt := bt) (lf := lf) (rg := rg) (dp := dp) (u := u) (row := row) (c := c) (had := had) (by first | assumption | omega | exact ⟨by omega, by omega⟩) (by first | assumption | omega | exact ⟨by omega, by omega⟩) (by first | assumption | omega | exact ⟨by omega, by omega⟩) (by first | assumption | omega | exact ⟨by omega, by omega⟩)) lk_X6_62 [0, 1] [2] [1, 2, 0] ⟨rfl, rfl, by decide, by decide, by decide⟩ ⟨rfl, by decide⟩ rfl rfl dX6_looks_14 rfl rfl ⟨by exact Nat.le_of_ble_eq_true rfl, by exact Nat.le_of_ble_eq_true rfl, rfl, rfl, by exact Nat.le_of_ble_eq_true rfl, by exact Nat.le_of_ble_eq_true rfl, by exact Nat.le_of_ble_eq_true rfl⟩ (fun r_3 h_2 => ?_)
      have ht : (r_3 = -1 ∧ takZ (u 0) (u 2) (zd u row) c = -4) ∨ (0 ≤ r_3 ∧ r_3 ≤ 4 ∧ takZ (u 0) (u 2) (zd u row) c = r_3) := by unfold takZ; rw [← hhad.1]; exact h_2
      refine y_istore C [(4, .int (zI r_3)), (0, .ref y), (1, .int (zI row)), (2, .int (zI had)), (3, .int (zI c))] dX6_looks_17 (by decide) rfl ?_
      refine y_iload C 0 dX6_looks_19 rfl ?_
      refine y_iconst C dX6_looks_21 ?_
      refine y_icmp_ne C 29 dX6_looks_22 (by decide) ⟨⟨by omega, by omega⟩, ⟨by omega, by omega⟩⟩ (fun c_4 => ?_) (fun c_4 => ?_)
      · refine y_iload C 0 dX6_looks_29 rfl ?_
        refine y_istore_n C [(2, .int (zI r_3)), (4, .int (zI r_3)), (0, .ref y), (1, .int (zI row)), (3, .int (zI c))] dX6_looks_31 (by decide) rfl ?_
        refine y_aload_n C 2 dX6_looks_32 rfl ?_
        refine y_get C fg_X6_25 0 dX6_looks_33 rfl rfl ?_
        refine y_iload_n C 4 dX6_looks_36 rfl ?_
        refine y_iload C 1 dX6_looks_37 rfl ?_
        refine y_iconst C dX6_looks_39 ?_
        refine y_icmp_ne C 47 dX6_looks_40 (by decide) ⟨⟨by omega, by omega⟩, ⟨by omega, by omega⟩⟩ (fun c_5 => ?_) (fun c_5 => ?_)
        · refine y_aload_n C 2 dX6_looks_47 rfl ?_
          refine y_get C fg_X6_7 0 dX6_looks_48 rfl rfl ?_
          refine y_iconst C dX6_looks_51 ?_
          refine y_iald C 1 0 dX6_looks_52 rfl rfl ⟨by omega, by omega, by omega⟩ ?_
          refine y_iconst C dX6_looks_53 ?_
          refine y_icmp_ne C 64 dX6_looks_54 (by decide) ⟨⟨by omega, by omega⟩, ⟨by omega, by omega⟩⟩ (fun c_6 => ?_) (fun c_6 => ?_)
          · refine y_iload C 1 dX6_looks_64 rfl ?_
            refine y_iast C 2 0 [cO y 6 [.ref ms, .ref ma, .ref mp, .int (zI np), .ref mk, .int (zI ik), .ref md, .int (zI ml), .ref me, .ref mo, .int (zI sp), .int (zI wr), .int (zI tp), .int (zI bt), .int (zI lf), .int (zI rg), .int (zI dp)], cI cA ms 800 u, cI cA me 32 (zU s1 c r_3)] dX6_looks_66 rfl rfl ⟨by omega, by omega, by omega⟩ rfl ?_
            refine y_iinc C 4 [(3, .int (zI (c + 1))), (2, .int (zI r_3)), (4, .int (zI r_3)), (0, .ref y), (1, .int (zI row))] dX6_looks_67 rfl (by decide) rfl ?_
            refine y_goto C 4 dX6_looks_70 (by decide) ?_
            refine y_lsub C [3, 4, 1, 0] (lv' := [(0, .ref y), (1, .int (zI row)), (2, .int (zI r_3)), (3, .int (zI (c + 1)))]) rfl ?_
            exact ih4 r_3 (c + 1) (zU s1 c r_3) (by omega) (by refine ⟨?_, by omega⟩; rw [hadZ_s _ _ _ (by omega)]; rcases ht with ⟨t1, t2⟩ | ⟨t1, t2, t3⟩; (first | (exfalso; omega) | (rw [if_pos t2]; exact hhad.1)); (first | (exfalso; omega) | (rw [if_neg (by omega)]; exact t3.symm))) (by refine zU_ext hs ?_; unfold sm1 seeR seeZ; rcases ht with ⟨t1, t2⟩ | ⟨t1, t2, t3⟩; (first | (exfalso; omega) | (rw [if_pos t2, if_pos rfl])); (first | (exfalso; omega) | (rw [t3, if_neg (by omega)]; (repeat' split) <;> omega))) (by omega)
          · refine y_iconst C dX6_looks_57 ?_
            refine y_iload C 1 dX6_looks_58 rfl ?_
            refine y_isub C dX6_looks_60 ?_
            refine y_goto C 66 dX6_looks_61 (by decide) ?_
            refine y_iast C 2 0 [cO y 6 [.ref ms, .ref ma, .ref mp, .int (zI np), .ref mk, .int (zI ik), .ref md, .int (zI ml), .ref me, .ref mo, .int (zI sp), .int (zI wr), .int (zI tp), .int (zI bt), .int (zI lf), .int (zI rg), .int (zI dp)], cI cA ms 800 u, cI cA me 32 (zU s1 c (4 - r_3))] dX6_looks_66 rfl rfl ⟨by omega, by omega, by omega⟩ rfl ?_
            refine y_iinc C 4 [(3, .int (zI (c + 1))), (2, .int (zI r_3)), (4, .int (zI r_3)), (0, .ref y), (1, .int (zI row))] dX6_looks_67 rfl (by decide) rfl ?_
            refine y_goto C 4 dX6_looks_70 (by decide) ?_
            refine y_lsub C [3, 4, 1, 0] (lv' := [(0, .ref y), (1, .int (zI row)), (2, .int (zI r_3)), (3, .int (zI (c + 1)))]) rfl ?_
            exact ih4 r_3 (c + 1) (zU s1 c (4 - r_3)) (by omega) (by refine ⟨?_, by omega⟩; rw [hadZ_s _ _ _ (by omega)]; rcases ht with ⟨t1, t2⟩ | ⟨t1, t2, t3⟩; (first | (exfalso; omega) | (rw [if_pos t2]; exact hhad.1)); (first | (exfalso; omega) | (rw [if_neg (by omega)]; exact t3.symm))) (by refine zU_ext hs ?_; unfold sm1 seeR seeZ; rcases ht with ⟨t1, t2⟩ | ⟨t1, t2, t3⟩; (first | (exfalso; omega) | (rw [if_pos t2, if_pos rfl])); (first | (exfalso; omega) | (rw [t3, if_neg (by omega)]; (repeat' split) <;> omega))) (by omega)
        · refine y_iconst C dX6_looks_43 ?_
          refine y_goto C 66 dX6_looks_44 (by decide) ?_
          refine y_iast C 2 0 [cO y 6 [.ref ms, .ref ma, .ref mp, .int (zI np), .ref mk, .int (zI ik), .ref md, .int (zI ml), .ref me, .ref mo, .int (zI sp), .int (zI wr), .int (zI tp), .int (zI bt), .int (zI lf), .int (zI rg), .int (zI dp)], cI cA ms 800 u, cI cA me 32 (zU s1 c (-1))] dX6_looks_66 rfl rfl ⟨by omega, by omega, by omega⟩ rfl ?_
          refine y_iinc C 4 [(3, .int (zI (c + 1))), (2, .int (zI r_3)), (4, .int (zI r_3)), (0, .ref y), (1, .int (zI row))] dX6_looks_67 rfl (by decide) rfl ?_
          refine y_goto C 4 dX6_looks_70 (by decide) ?_
          refine y_lsub C [3, 4, 1, 0] (lv' := [(0, .ref y), (1, .int (zI row)), (2, .int (zI r_3)), (3, .int (zI (c + 1)))]) rfl ?_
          exact ih4 r_3 (c + 1) (zU s1 c (-1)) (by omega) (by refine ⟨?_, by omega⟩; rw [hadZ_s _ _ _ (by omega)]; rcases ht with ⟨t1, t2⟩ | ⟨t1, t2, t3⟩; (first | (exfalso; omega) | (rw [if_pos t2]; exact hhad.1)); (first | (exfalso; omega) | (rw [if_neg (by omega)]; exact t3.symm))) (by refine zU_ext hs ?_; unfold sm1 seeR seeZ; rcases ht with ⟨t1, t2⟩ | ⟨t1, t2, t3⟩; (first | (exfalso; omega) | (rw [if_pos t2, if_pos rfl])); (first | (exfalso; omega) | (rw [t3, if_neg (by omega)]; (repeat' split) <;> omega))) (by omega)
      · refine y_iload_n C 3 dX6_looks_25 rfl ?_
        refine y_goto C 31 dX6_looks_26 (by decide) ?_
        refine y_istore_n C [(2, .int (zI had)), (4, .int (zI r_3)), (0, .ref y), (1, .int (zI row)), (3, .int (zI c))] dX6_looks_31 (by decide) rfl ?_
        refine y_aload_n C 2 dX6_looks_32 rfl ?_
        refine y_get C fg_X6_25 0 dX6_looks_33 rfl rfl ?_
        refine y_iload_n C 4 dX6_looks_36 rfl ?_
        refine y_iload C 1 dX6_looks_37 rfl ?_
        refine y_iconst C dX6_looks_39 ?_
        refine y_icmp_ne C 47 dX6_looks_40 (by decide) ⟨⟨by omega, by omega⟩, ⟨by omega, by omega⟩⟩ (fun c_7 => ?_) (fun c_7 => ?_)
        · refine y_aload_n C 2 dX6_looks_47 rfl ?_
          refine y_get C fg_X6_7 0 dX6_looks_48 rfl rfl ?_
          refine y_iconst C dX6_looks_51 ?_
          refine y_iald C 1 0 dX6_looks_52 rfl rfl ⟨by omega, by omega, by omega⟩ ?_
          refine y_iconst C dX6_looks_53 ?_
          refine y_icmp_ne C 64 dX6_looks_54 (by decide) ⟨⟨by omega, by omega⟩, ⟨by omega, by omega⟩⟩ (fun c_8 => ?_) (fun c_8 => ?_)
          · refine y_iload C 1 dX6_looks_64 rfl ?_
            refine y_iast C 2 0 [cO y 6 [.ref ms, .ref ma, .ref mp, .int (zI np), .ref mk, .int (zI ik), .ref md, .int (zI ml), .ref me, .ref mo, .int (zI sp), .int (zI wr), .int (zI tp), .int (zI bt), .int (zI lf), .int (zI rg), .int (zI dp)], cI cA ms 800 u, cI cA me 32 (zU s1 c r_3)] dX6_looks_66 rfl rfl ⟨by omega, by omega, by omega⟩ rfl ?_
            refine y_iinc C 4 [(3, .int (zI (c + 1))), (2, .int (zI had)), (4, .int (zI r_3)), (0, .ref y), (1, .int (zI row))] dX6_looks_67 rfl (by decide) rfl ?_
            refine y_goto C 4 dX6_looks_70 (by decide) ?_
            refine y_lsub C [3, 4, 1, 0] (lv' := [(0, .ref y), (1, .int (zI row)), (2, .int (zI had)), (3, .int (zI (c + 1)))]) rfl ?_
            exact ih4 had (c + 1) (zU s1 c r_3) (by omega) (by refine ⟨?_, by omega⟩; rw [hadZ_s _ _ _ (by omega)]; rcases ht with ⟨t1, t2⟩ | ⟨t1, t2, t3⟩; (first | (exfalso; omega) | (rw [if_pos t2]; exact hhad.1)); (first | (exfalso; omega) | (rw [if_neg (by omega)]; exact t3.symm))) (by refine zU_ext hs ?_; unfold sm1 seeR seeZ; rcases ht with ⟨t1, t2⟩ | ⟨t1, t2, t3⟩; (first | (exfalso; omega) | (rw [if_pos t2, if_pos rfl])); (first | (exfalso; omega) | (rw [t3, if_neg (by omega)]; (repeat' split) <;> omega))) (by omega)
          · refine y_iconst C dX6_looks_57 ?_
            refine y_iload C 1 dX6_looks_58 rfl ?_
            refine y_isub C dX6_looks_60 ?_
            refine y_goto C 66 dX6_looks_61 (by decide) ?_
            refine y_iast C 2 0 [cO y 6 [.ref ms, .ref ma, .ref mp, .int (zI np), .ref mk, .int (zI ik), .ref md, .int (zI ml), .ref me, .ref mo, .int (zI sp), .int (zI wr), .int (zI tp), .int (zI bt), .int (zI lf), .int (zI rg), .int (zI dp)], cI cA ms 800 u, cI cA me 32 (zU s1 c (4 - r_3))] dX6_looks_66 rfl rfl ⟨by omega, by omega, by omega⟩ rfl ?_
            refine y_iinc C 4 [(3, .int (zI (c + 1))), (2, .int (zI had)), (4, .int (zI r_3)), (0, .ref y), (1, .int (zI row))] dX6_looks_67 rfl (by decide) rfl ?_
            refine y_goto C 4 dX6_looks_70 (by decide) ?_
            refine y_lsub C [3, 4, 1, 0] (lv' := [(0, .ref y), (1, .int (zI row)), (2, .int (zI had)), (3, .int (zI (c + 1)))]) rfl ?_
            exact ih4 had (c + 1) (zU s1 c (4 - r_3)) (by omega) (by refine ⟨?_, by omega⟩; rw [hadZ_s _ _ _ (by omega)]; rcases ht with ⟨t1, t2⟩ | ⟨t1, t2, t3⟩; (first | (exfalso; omega) | (rw [if_pos t2]; exact hhad.1)); (first | (exfalso; omega) | (rw [if_neg (by omega)]; exact t3.symm))) (by refine zU_ext hs ?_; unfold sm1 seeR seeZ; rcases ht with ⟨t1, t2⟩ | ⟨t1, t2, t3⟩; (first | (exfalso; omega) | (rw [if_pos t2, if_pos rfl])); (first | (exfalso; omega) | (rw [t3, if_neg (by omega)]; (repeat' split) <;> omega))) (by omega)
        · refine y_iconst C dX6_looks_43 ?_
          refine y_goto C 66 dX6_looks_44 (by decide) ?_
          refine y_iast C 2 0 [cO y 6 [.ref ms, .ref ma, .ref mp, .int (zI np), .ref mk, .int (zI ik), .ref md, .int (zI ml), .ref me, .ref mo, .int (zI sp), .int (zI wr), .int (zI tp), .int (zI bt), .int (zI lf), .int (zI rg), .int (zI dp)], cI cA ms 800 u, cI cA me 32 (zU s1 c (-1))] dX6_looks_66 rfl rfl ⟨by omega, by omega, by omega⟩ rfl ?_
          refine y_iinc C 4 [(3, .int (zI (c + 1))), (2, .int (zI had)), (4, .int (zI r_3)), (0, .ref y), (1, .int (zI row))] dX6_looks_67 rfl (by decide) rfl ?_
          refine y_goto C 4 dX6_looks_70 (by decide) ?_
          refine y_lsub C [3, 4, 1, 0] (lv' := [(0, .ref y), (1, .int (zI row)), (2, .int (zI had)), (3, .int (zI (c + 1)))]) rfl ?_
          exact ih4 had (c + 1) (zU s1 c (-1)) (by omega) (by refine ⟨?_, by omega⟩; rw [hadZ_s _ _ _ (by omega)]; rcases ht with ⟨t1, t2⟩ | ⟨t1, t2, t3⟩; (first | (exfalso; omega) | (rw [if_pos t2]; exact hhad.1)); (first | (exfalso; omega) | (rw [if_neg (by omega)]; exact t3.symm))) (by refine zU_ext hs ?_; unfold sm1 seeR seeZ; rcases ht with ⟨t1, t2⟩ | ⟨t1, t2, t3⟩; (first | (exfalso; omega) | (rw [if_pos t2, if_pos rfl])); (first | (exfalso; omega) | (rw [t3, if_neg (by omega)]; (repeat' split) <;> omega))) (by omega)

set_option maxHeartbeats 4000000 in
set_option maxRecDepth 100000 in
theorem m_X6_looksBeside {l : Launch} {D : va_G} {cA cB : ClassId} {y ms ma mp mk md me mo : Nat} {np ik ml sp wr tp bt lf rg dp : Int} {u sn so : Int → Int} {row : Int} (hrow : 0 ≤ row ∧ row < 8) (hU : UK u) : MV l yX6_looksBeside cX6_looksBeside 3 { frames := 5, cells := 0, slots := 0, locals := 121 } D (zT cA cB) [.ref y, .int (zI row)] [cO y 6 [.ref ms, .ref ma, .ref mp, .int (zI np), .ref mk, .int (zI ik), .ref md, .int (zI ml), .ref me, .ref mo, .int (zI sp), .int (zI wr), .int (zI tp), .int (zI bt), .int (zI lf), .int (zI rg), .int (zI dp)], cI cA ms 800 u, cI cA me 32 sn, cI cA mo 32 so] (fun w => ∃ (sn2 : Int → Int), ∃ (so2 : Int → Int), w = [cO y 6 [.ref ms, .ref ma, .ref mp, .int (zI np), .ref mk, .int (zI ik), .ref md, .int (zI ml), .ref me, .ref mo, .int (zI sp), .int (zI wr), .int (zI tp), .int (zI bt), .int (zI lf), .int (zI rg), .int (zI dp)], cI cA ms 800 u, cI cA me 32 sn2, cI cA mo 32 so2] ∧ (∀ k : Int, 0 ≤ k → k < 32 → sn2 k = sm1 (seeR u row k)) ∧ (∀ k : Int, 0 ≤ k → k < 32 → so2 k = sm1 (seeR u row k))) := by
  refine MV.of RX6 ⟨rfl, by decide +kernel⟩ (Nat.le_of_ble_eq_true rfl) ?_
  intro K C hret
  change K 0 0 _ [(0, .ref y), (1, .int (zI row))] 0 []
  refine y_aload_n C 0 dX6_looksBeside_0 rfl ?_
  refine y_iload_n C 1 dX6_looksBeside_1 rfl ?_
  refine y_mcallv C (m_X6_looks (l := l) (D := D) (cA := cA) (cB := cB) (y := y) (ms := ms) (ma := ma) (mp := mp) (mk := mk) (md := md) (me := me) (mo := mo) (np := np) (ik := ik) (ml := ml) (sp := sp) (wr := wr) (tp := tp) (bt := bt) (lf := lf) (rg := rg) (dp := dp) (u := u) (sn := sn) (row := row) (by first | assumption | omega | exact ⟨by omega, by omega⟩) (by first | assumption | omega | exact ⟨by omega, by omega⟩)) lk_X6_66 [0, 1, 2] [3] ⟨rfl, rfl, by decide, by decide, by decide⟩ (jb := 0) rfl rfl dX6_looksBeside_2 rfl rfl ⟨by exact Nat.le_of_ble_eq_true rfl, by exact Nat.le_of_ble_eq_true rfl, rfl, rfl, by exact Nat.le_of_ble_eq_true rfl, by exact Nat.le_of_ble_eq_true rfl, by exact Nat.le_of_ble_eq_true rfl⟩ (fun w_4 h_1 => ?_)
  obtain ⟨sn2_3, rfl, h_1⟩ := h_1
  refine ⟨[1, 2, 3, 0], [cO y 6 [.ref ms, .ref ma, .ref mp, .int (zI np), .ref mk, .int (zI ik), .ref md, .int (zI ml), .ref me, .ref mo, .int (zI sp), .int (zI wr), .int (zI tp), .int (zI bt), .int (zI lf), .int (zI rg), .int (zI dp)], cI cA ms 800 u, cI cA me 32 sn2_3, cI cA mo 32 so], ⟨rfl, by decide⟩, ?_⟩
  have hl := h_1
  refine y_iconst C dX6_looksBeside_5 ?_
  refine y_istore_n C [(2, .int (zI 0)), (0, .ref y), (1, .int (zI row))] dX6_looksBeside_6 (by decide) rfl ?_
  refine y_lsub C [1, 2, 0] (lv' := [(0, .ref y), (1, .int (zI row)), (2, .int (zI 0))]) rfl ?_
  suffices hL7 : ∀ (fu : Nat) (c : Int) (o1 : Int → Int), (0 ≤ c ∧ c ≤ 32) → (∀ k : Int, 0 ≤ k → k < c → o1 k = sm1 (seeR u row k)) → (32 - c).toNat < fu → K 0 0 [cO y 6 [.ref ms, .ref ma, .ref mp, .int (zI np), .ref mk, .int (zI ik), .ref md, .int (zI ml), .ref me, .ref mo, .int (zI sp), .int (zI wr), .int (zI tp), .int (zI bt), .int (zI lf), .int (zI rg), .int (zI dp)], cI cA ms 800 u, cI cA me 32 sn2_3, cI cA mo 32 o1] [(0, .ref y), (1, .int (zI row)), (2, .int (zI c))] 7 [] from hL7 _ 0 so (by omega) (by intro k a b; omega) (Nat.lt_succ_self _)
  intro f7
  induction f7 with
  | zero => exact fun _ _ _ _ hf => absurd hf (Nat.not_lt_zero _)
  | succ f7 ih7 =>
    intro c o1 hc ho hf7
    refine y_iload_n C 2 dX6_looksBeside_7 rfl ?_
    refine y_bipush C dX6_looksBeside_8 (by decide +kernel) ?_
    refine y_icmp_ge C 31 dX6_looksBeside_10 (by decide) ⟨⟨by omega, by omega⟩, ⟨by omega, by omega⟩⟩ (fun c_5 => ?_) (fun c_5 => ?_)
    · refine hret _ _ _ dX6_looksBeside_31 ⟨sn2_3, o1, rfl, ?_⟩
      show (∀ k : Int, 0 ≤ k → k < 32 → sn2_3 k = sm1 (seeR u row k)) ∧ (∀ k : Int, 0 ≤ k → k < 32 → o1 k = sm1 (seeR u row k))
      exact ⟨hl, fun k a b => ho k a (by omega)⟩
    · refine y_aload_n C 0 dX6_looksBeside_13 rfl ?_
      refine y_get C fg_X6_28 0 dX6_looksBeside_14 rfl rfl ?_
      refine y_iload_n C 2 dX6_looksBeside_17 rfl ?_
      refine y_aload_n C 0 dX6_looksBeside_18 rfl ?_
      refine y_get C fg_X6_25 0 dX6_looksBeside_19 rfl rfl ?_
      refine y_iload_n C 2 dX6_looksBeside_22 rfl ?_
      refine y_iald C 2 0 dX6_looksBeside_23 rfl rfl ⟨by omega, by omega, by omega⟩ ?_
      refine y_iast C 3 0 [cO y 6 [.ref ms, .ref ma, .ref mp, .int (zI np), .ref mk, .int (zI ik), .ref md, .int (zI ml), .ref me, .ref mo, .int (zI sp), .int (zI wr), .int (zI tp), .int (zI bt), .int (zI lf), .int (zI rg), .int (zI dp)], cI cA ms 800 u, cI cA me 32 sn2_3, cI cA mo 32 (zU o1 c (sn2_3 c))] dX6_looksBeside_24 rfl rfl ⟨by omega, by omega, by omega⟩ rfl ?_
      refine y_iinc C 2 [(2, .int (zI (c + 1))), (0, .ref y), (1, .int (zI row))] dX6_looksBeside_25 rfl (by decide) rfl ?_
      refine y_goto C 7 dX6_looksBeside_28 (by decide) ?_
      refine y_lsub C [1, 2, 0] (lv' := [(0, .ref y), (1, .int (zI row)), (2, .int (zI (c + 1)))]) rfl ?_
      exact ih7 (c + 1) (zU o1 c (sn2_3 c)) (by omega) (by exact zU_ext ho (hl c (by omega) (by omega))) (by omega)

set_option maxHeartbeats 4000000 in
set_option maxRecDepth 100000 in
theorem m_X6_isRight {l : Launch} {D : va_G} {cA cB : ClassId} {y ms ma mp mk md me mo : Nat} {np ik ml sp wr tp bt lf rg dp : Int} {u sn : Int → Int} {row c : Int} (hrow : 0 ≤ row ∧ row < 8) (hc : 0 ≤ c ∧ c < 32) (hU : UK u) (hsn : ∀ k : Int, 0 ≤ k → k < 32 → -1 ≤ sn k ∧ sn k ≤ 4) : MI l yX6_isRight cX6_isRight 3 .boolean { frames := 2, cells := 0, slots := 0, locals := 43 } D (zT cA cB) [.ref y, .int (zI row), .int (zI c)] [cO y 6 [.ref ms, .ref ma, .ref mp, .int (zI np), .ref mk, .int (zI ik), .ref md, .int (zI ml), .ref me, .ref mo, .int (zI sp), .int (zI wr), .int (zI tp), .int (zI bt), .int (zI lf), .int (zI rg), .int (zI dp)], cI cA ms 800 u, cI cA me 32 sn] (fun r w => w = [cO y 6 [.ref ms, .ref ma, .ref mp, .int (zI np), .ref mk, .int (zI ik), .ref md, .int (zI ml), .ref me, .ref mo, .int (zI sp), .int (zI wr), .int (zI tp), .int (zI bt), .int (zI lf), .int (zI rg), .int (zI dp)], cI cA ms 800 u, cI cA me 32 sn] ∧ ((r = 1 ∧ (sn c = zp u row c)) ∨ (r = 0 ∧ ¬ (sn c = zp u row c)))) := by
  refine MI.of RX6 ⟨rfl, by decide +kernel⟩ (Or.inr rfl) (Nat.le_of_ble_eq_true rfl) (fun _ r w h => by rcases h.2 with h | h; exact Or.inr h.1; exact Or.inl h.1) ?_
  intro K C hret
  change K 0 0 _ [(0, .ref y), (1, .int (zI row)), (2, .int (zI c))] 0 []
  refine y_aload_n C 0 dX6_isRight_0 rfl ?_
  refine y_get C fg_X6_25 0 dX6_isRight_1 rfl rfl ?_
  refine y_iload_n C 2 dX6_isRight_4 rfl ?_
  refine y_iald C 2 0 dX6_isRight_5 rfl rfl ⟨by omega, by omega, by omega⟩ ?_
  have g_1 := hsn c (by omega) (by omega)
  refine y_aload_n C 0 dX6_isRight_6 rfl ?_
  refine y_iload_n C 1 dX6_isRight_7 rfl ?_
  refine y_iload_n C 2 dX6_isRight_8 rfl ?_
  refine y_pcall C (m_X6_planeOf (l := l) (D := D) (cA := cA) (cB := cB) (y := y) (ms := ms) (ma := ma) (mp := mp) (mk := mk) (md := md) (me := me) (mo := mo) (np := np) (ik := ik) (ml := ml) (sp := sp) (wr := wr) (tp := tp) (bt := bt) (lf := lf) (rg := rg) (dp := dp) (u := u) (row := row) (c := c) (by first | assumption | omega | exact ⟨by omega, by omega⟩) (by first | assumption | omega | exact ⟨by omega, by omega⟩) (by first | assumption | omega | exact ⟨by omega, by omega⟩)) lk_X6_43 [0, 1] [2] [1, 2, 0] ⟨rfl, rfl, by decide, by decide, by decide⟩ ⟨rfl, by decide⟩ rfl rfl dX6_isRight_9 rfl rfl ⟨by exact Nat.le_of_ble_eq_true rfl, by exact Nat.le_of_ble_eq_true rfl, rfl, rfl, by exact Nat.le_of_ble_eq_true rfl, by exact Nat.le_of_ble_eq_true rfl, by exact Nat.le_of_ble_eq_true rfl⟩ (fun r_3 h_2 => ?_)
  refine y_icmp_ne C 19 dX6_isRight_12 (by decide) ⟨⟨by omega, by omega⟩, ⟨by omega, by omega⟩⟩ (fun c_4 => ?_) (fun c_4 => ?_)
  · refine y_iconst C dX6_isRight_19 ?_
    refine hret _ _ _ _ dX6_isRight_20 ⟨rfl, ?_⟩
    show ((0 = 1 ∧ (sn c = zp u row c)) ∨ (0 = 0 ∧ ¬ (sn c = zp u row c)))
    omega
  · refine y_iconst C dX6_isRight_15 ?_
    refine y_goto C 20 dX6_isRight_16 (by decide) ?_
    refine hret _ _ _ _ dX6_isRight_20 ⟨rfl, ?_⟩
    show ((1 = 1 ∧ (sn c = zp u row c)) ∨ (1 = 0 ∧ ¬ (sn c = zp u row c)))
    omega

set_option maxHeartbeats 4000000 in
set_option maxRecDepth 100000 in
theorem m_X6_rightOnes {l : Launch} {D : va_G} {cA cB : ClassId} {y ms ma mp mk md me mo : Nat} {np ik ml sp wr tp bt lf rg dp : Int} {u sn : Int → Int} {row : Int} (hrow : 0 ≤ row ∧ row < 8) (hU : UK u) : MI l yX6_rightOnes cX6_rightOnes 4 .int { frames := 5, cells := 0, slots := 0, locals := 121 } D (zT cA cB) [.ref y, .int (zI row)] [cO y 6 [.ref ms, .ref ma, .ref mp, .int (zI np), .ref mk, .int (zI ik), .ref md, .int (zI ml), .ref me, .ref mo, .int (zI sp), .int (zI wr), .int (zI tp), .int (zI bt), .int (zI lf), .int (zI rg), .int (zI dp)], cI cA ms 800 u, cI cA me 32 sn] (fun r w => ∃ (sn2 : Int → Int), w = [cO y 6 [.ref ms, .ref ma, .ref mp, .int (zI np), .ref mk, .int (zI ik), .ref md, .int (zI ml), .ref me, .ref mo, .int (zI sp), .int (zI wr), .int (zI tp), .int (zI bt), .int (zI lf), .int (zI rg), .int (zI dp)], cI cA ms 800 u, cI cA me 32 sn2] ∧ (r = rgtZ u row ∧ 0 ≤ r ∧ r ≤ 32) ∧ (∀ k : Int, 0 ≤ k → k < 32 → sn2 k = sm1 (seeR u row k))) := by
  refine MI.of RX6 ⟨rfl, by decide +kernel⟩ (Or.inl rfl) (Nat.le_of_ble_eq_true rfl) (fun h => by cases h) ?_
  intro K C hret
  change K 0 0 _ [(0, .ref y), (1, .int (zI row))] 0 []
  have hus := hU.s
  have hup := hU.p
  have hud := hU.d
  have huk := hU.k
  have hul := hU.len
  have hut := hU.lot
  refine y_aload_n C 0 dX6_rightOnes_0 rfl ?_
  refine y_iload_n C 1 dX6_rightOnes_1 rfl ?_
  refine y_mcallv C (m_X6_looks (l := l) (D := D) (cA := cA) (cB := cB) (y := y) (ms := ms) (ma := ma) (mp := mp) (mk := mk) (md := md) (me := me) (mo := mo) (np := np) (ik := ik) (ml := ml) (sp := sp) (wr := wr) (tp := tp) (bt := bt) (lf := lf) (rg := rg) (dp := dp) (u := u) (sn := sn) (row := row) (by first | assumption | omega | exact ⟨by omega, by omega⟩) (by first | assumption | omega | exact ⟨by omega, by omega⟩)) lk_X6_66 [0, 1, 2] [] ⟨rfl, rfl, by decide, by decide, by decide⟩ (jb := 0) rfl rfl dX6_rightOnes_2 rfl rfl ⟨by exact Nat.le_of_ble_eq_true rfl, by exact Nat.le_of_ble_eq_true rfl, rfl, rfl, by exact Nat.le_of_ble_eq_true rfl, by exact Nat.le_of_ble_eq_true rfl, by exact Nat.le_of_ble_eq_true rfl⟩ (fun w_4 h_1 => ?_)
  obtain ⟨sn2_3, rfl, h_1⟩ := h_1
  refine ⟨[0, 1, 2], [cO y 6 [.ref ms, .ref ma, .ref mp, .int (zI np), .ref mk, .int (zI ik), .ref md, .int (zI ml), .ref me, .ref mo, .int (zI sp), .int (zI wr), .int (zI tp), .int (zI bt), .int (zI lf), .int (zI rg), .int (zI dp)], cI cA ms 800 u, cI cA me 32 sn2_3], ⟨rfl, by decide⟩, ?_⟩
  have hl := h_1
  have hsr : ∀ k : Int, 0 ≤ k → k < 32 → -1 ≤ sn2_3 k ∧ sn2_3 k ≤ 4 := fun k a b => by rw [hl k a b]; exact sm1_r (seeR_r u row k)
  refine y_iconst C dX6_rightOnes_5 ?_
  refine y_istore_n C [(2, .int (zI 0)), (0, .ref y), (1, .int (zI row))] dX6_rightOnes_6 (by decide) rfl ?_
  refine y_iconst C dX6_rightOnes_7 ?_
  refine y_istore_n C [(3, .int (zI 0)), (2, .int (zI 0)), (0, .ref y), (1, .int (zI row))] dX6_rightOnes_8 (by decide) rfl ?_
  refine y_lsub C [2, 3, 1, 0] (lv' := [(0, .ref y), (1, .int (zI row)), (2, .int (zI 0)), (3, .int (zI 0))]) rfl ?_
  suffices hL9 : ∀ (fu : Nat) (n : Int) (c : Int), (0 ≤ c ∧ c ≤ 32) → (n = zcnt (fun k => seeR u row k = zp u row k) c ∧ 0 ≤ n ∧ n ≤ c) → (32 - c).toNat < fu → K 0 0 [cO y 6 [.ref ms, .ref ma, .ref mp, .int (zI np), .ref mk, .int (zI ik), .ref md, .int (zI ml), .ref me, .ref mo, .int (zI sp), .int (zI wr), .int (zI tp), .int (zI bt), .int (zI lf), .int (zI rg), .int (zI dp)], cI cA ms 800 u, cI cA me 32 sn2_3] [(0, .ref y), (1, .int (zI row)), (2, .int (zI n)), (3, .int (zI c))] 9 [] from hL9 _ 0 0 (by omega) (by exact ⟨rfl, by omega, by omega⟩) (Nat.lt_succ_self _)
  intro f9
  induction f9 with
  | zero => exact fun _ _ _ _ hf => absurd hf (Nat.not_lt_zero _)
  | succ f9 ih9 =>
    intro n c hc hn hf9
    refine y_iload_n C 3 dX6_rightOnes_9 rfl ?_
    refine y_bipush C dX6_rightOnes_10 (by decide +kernel) ?_
    refine y_icmp_ge C 38 dX6_rightOnes_12 (by decide) ⟨⟨by omega, by omega⟩, ⟨by omega, by omega⟩⟩ (fun c_5 => ?_) (fun c_5 => ?_)
    · refine y_iload_n C 2 dX6_rightOnes_38 rfl ?_
      refine hret _ _ _ _ dX6_rightOnes_39 ⟨sn2_3, rfl, ?_⟩
      show (n = rgtZ u row ∧ 0 ≤ n ∧ n ≤ 32) ∧ (∀ k : Int, 0 ≤ k → k < 32 → sn2_3 k = sm1 (seeR u row k))
      obtain rfl : c = 32 := by omega
      exact ⟨hn, hl⟩
    · refine y_iload_n C 2 dX6_rightOnes_15 rfl ?_
      refine y_aload_n C 0 dX6_rightOnes_16 rfl ?_
      refine y_iload_n C 1 dX6_rightOnes_17 rfl ?_
      refine y_iload_n C 3 dX6_rightOnes_18 rfl ?_
      refine y_pcall C (m_X6_isRight (l := l) (D := D) (cA := cA) (cB := cB) (y := y) (ms := ms) (ma := ma) (mp := mp) (mk := mk) (md := md) (me := me) (mo := mo) (np := np) (ik := ik) (ml := ml) (sp := sp) (wr := wr) (tp := tp) (bt := bt) (lf := lf) (rg := rg) (dp := dp) (u := u) (sn := sn2_3) (row := row) (c := c) (by first | assumption | omega | exact ⟨by omega, by omega⟩) (by first | assumption | omega | exact ⟨by omega, by omega⟩) (by first | assumption | omega | exact ⟨by omega, by omega⟩) (by first | assumption | omega | exact ⟨by omega, by omega⟩)) lk_X6_70 [0, 1, 2] [] [0, 1, 2] ⟨rfl, rfl, by decide, by decide, by decide⟩ ⟨rfl, by decide⟩ rfl rfl dX6_rightOnes_19 rfl rfl ⟨by exact Nat.le_of_ble_eq_true rfl, by exact Nat.le_of_ble_eq_true rfl, rfl, rfl, by exact Nat.le_of_ble_eq_true rfl, by exact Nat.le_of_ble_eq_true rfl, by exact Nat.le_of_ble_eq_true rfl⟩ (fun r_7 h_6 => ?_)
      have hk := h_6
      refine y_if_eq C 29 dX6_rightOnes_22 (by decide) ⟨by omega, by omega⟩ (fun c_8 => ?_) (fun c_8 => ?_)
      · refine y_iconst C dX6_rightOnes_29 ?_
        refine y_iadd C dX6_rightOnes_30 ?_
        refine y_istore_n C [(2, .int (zI (n + 0))), (0, .ref y), (1, .int (zI row)), (3, .int (zI c))] dX6_rightOnes_31 (by decide) rfl ?_
        refine y_iinc C 3 [(3, .int (zI (c + 1))), (2, .int (zI (n + 0))), (0, .ref y), (1, .int (zI row))] dX6_rightOnes_32 rfl (by decide) rfl ?_
        refine y_goto C 9 dX6_rightOnes_35 (by decide) ?_
        refine y_lsub C [2, 3, 1, 0] (lv' := [(0, .ref y), (1, .int (zI row)), (2, .int (zI (n + 0))), (3, .int (zI (c + 1)))]) rfl ?_
        exact ih9 (n + 0) (c + 1) (by omega) (by refine ⟨?_, by omega, by omega⟩; exact zcnt_step (by omega) hn.1 (by rw [← sm1_p (seeR_r u row c) (hU.rp hrow (show 0 ≤ c by omega) (by omega)).1, ← hl c (by omega) (by omega)]; omega)) (by omega)
      · refine y_iconst C dX6_rightOnes_25 ?_
        refine y_goto C 30 dX6_rightOnes_26 (by decide) ?_
        refine y_iadd C dX6_rightOnes_30 ?_
        refine y_istore_n C [(2, .int (zI (n + 1))), (0, .ref y), (1, .int (zI row)), (3, .int (zI c))] dX6_rightOnes_31 (by decide) rfl ?_
        refine y_iinc C 3 [(3, .int (zI (c + 1))), (2, .int (zI (n + 1))), (0, .ref y), (1, .int (zI row))] dX6_rightOnes_32 rfl (by decide) rfl ?_
        refine y_goto C 9 dX6_rightOnes_35 (by decide) ?_
        refine y_lsub C [2, 3, 1, 0] (lv' := [(0, .ref y), (1, .int (zI row)), (2, .int (zI (n + 1))), (3, .int (zI (c + 1)))]) rfl ?_
        exact ih9 (n + 1) (c + 1) (by omega) (by refine ⟨?_, by omega, by omega⟩; exact zcnt_step (by omega) hn.1 (by rw [← sm1_p (seeR_r u row c) (hU.rp hrow (show 0 ≤ c by omega) (by omega)).1, ← hl c (by omega) (by omega)]; omega)) (by omega)

set_option maxHeartbeats 4000000 in
set_option maxRecDepth 100000 in
theorem m_X6_allRight {l : Launch} {D : va_G} {cA cB : ClassId} {y ms ma mp mk md me mo : Nat} {np ik ml sp wr tp bt lf rg dp : Int} {u sn : Int → Int} (hU : UK u) : MI l yX6_allRight cX6_allRight 3 .int { frames := 6, cells := 0, slots := 0, locals := 144 } D (zT cA cB) [.ref y] [cO y 6 [.ref ms, .ref ma, .ref mp, .int (zI np), .ref mk, .int (zI ik), .ref md, .int (zI ml), .ref me, .ref mo, .int (zI sp), .int (zI wr), .int (zI tp), .int (zI bt), .int (zI lf), .int (zI rg), .int (zI dp)], cI cA ms 800 u, cI cA me 32 sn] (fun r w => ∃ (sn2 : Int → Int), w = [cO y 6 [.ref ms, .ref ma, .ref mp, .int (zI np), .ref mk, .int (zI ik), .ref md, .int (zI ml), .ref me, .ref mo, .int (zI sp), .int (zI wr), .int (zI tp), .int (zI bt), .int (zI lf), .int (zI rg), .int (zI dp)], cI cA ms 800 u, cI cA me 32 sn2] ∧ (r = allZ u ∧ 0 ≤ r ∧ r ≤ 256)) := by
  refine MI.of RX6 ⟨rfl, by decide +kernel⟩ (Or.inl rfl) (Nat.le_of_ble_eq_true rfl) (fun h => by cases h) ?_
  intro K C hret
  change K 0 0 _ [(0, .ref y)] 0 []
  refine y_iconst C dX6_allRight_0 ?_
  refine y_istore_n C [(1, .int (zI 0)), (0, .ref y)] dX6_allRight_1 (by decide) rfl ?_
  refine y_iconst C dX6_allRight_2 ?_
  refine y_istore_n C [(2, .int (zI 0)), (1, .int (zI 0)), (0, .ref y)] dX6_allRight_3 (by decide) rfl ?_
  refine y_lsub C [2, 1, 0] (lv' := [(0, .ref y), (1, .int (zI 0)), (2, .int (zI 0))]) rfl ?_
  suffices hL4 : ∀ (fu : Nat) (n : Int) (row : Int) (s1 : Int → Int), (0 ≤ row ∧ row ≤ 8) → (n = sumZ (fun row => kndR u row 4) row ∧ 0 ≤ n ∧ n ≤ 32 * row) → (8 - row).toNat < fu → K 0 0 [cO y 6 [.ref ms, .ref ma, .ref mp, .int (zI np), .ref mk, .int (zI ik), .ref md, .int (zI ml), .ref me, .ref mo, .int (zI sp), .int (zI wr), .int (zI tp), .int (zI bt), .int (zI lf), .int (zI rg), .int (zI dp)], cI cA ms 800 u, cI cA me 32 s1] [(0, .ref y), (1, .int (zI n)), (2, .int (zI row))] 4 [] from hL4 _ 0 0 sn (by omega) (by exact ⟨rfl, by omega, by omega⟩) (Nat.lt_succ_self _)
  intro f4
  induction f4 with
  | zero => exact fun _ _ _ _ _ hf => absurd hf (Nat.not_lt_zero _)
  | succ f4 ih4 =>
    intro n row s1 hrow hn hf4
    refine y_iload_n C 2 dX6_allRight_4 rfl ?_
    refine y_bipush C dX6_allRight_5 (by decide +kernel) ?_
    refine y_icmp_ge C 24 dX6_allRight_7 (by decide) ⟨⟨by omega, by omega⟩, ⟨by omega, by omega⟩⟩ (fun c_1 => ?_) (fun c_1 => ?_)
    · refine y_iload_n C 1 dX6_allRight_24 rfl ?_
      refine hret _ _ _ _ dX6_allRight_25 ⟨s1, rfl, ?_⟩
      show (n = allZ u ∧ 0 ≤ n ∧ n ≤ 256)
      obtain rfl : row = 8 := by omega
      exact ⟨hn.1, by omega, by omega⟩
    · refine y_iload_n C 1 dX6_allRight_10 rfl ?_
      refine y_aload_n C 0 dX6_allRight_11 rfl ?_
      refine y_iload_n C 2 dX6_allRight_12 rfl ?_
      refine y_mcalli C (m_X6_rightOnes (l := l) (D := D) (cA := cA) (cB := cB) (y := y) (ms := ms) (ma := ma) (mp := mp) (mk := mk) (md := md) (me := me) (mo := mo) (np := np) (ik := ik) (ml := ml) (sp := sp) (wr := wr) (tp := tp) (bt := bt) (lf := lf) (rg := rg) (dp := dp) (u := u) (sn := s1) (row := row) (by first | assumption | omega | exact ⟨by omega, by omega⟩) (by first | assumption | omega | exact ⟨by omega, by omega⟩)) lk_X6_74 [0, 1, 2] [] ⟨rfl, rfl, by decide, by decide, by decide⟩ (jb := 0) rfl rfl dX6_allRight_13 rfl rfl ⟨by exact Nat.le_of_ble_eq_true rfl, by exact Nat.le_of_ble_eq_true rfl, rfl, rfl, by exact Nat.le_of_ble_eq_true rfl, by exact Nat.le_of_ble_eq_true rfl, by exact Nat.le_of_ble_eq_true rfl⟩ (fun r_3 w_5 h_2 => ?_)
      obtain ⟨sn2_4, rfl, h_2⟩ := h_2
      refine ⟨[0, 1, 2], [cO y 6 [.ref ms, .ref ma, .ref mp, .int (zI np), .ref mk, .int (zI ik), .ref md, .int (zI ml), .ref me, .ref mo, .int (zI sp), .int (zI wr), .int (zI tp), .int (zI bt), .int (zI lf), .int (zI rg), .int (zI dp)], cI cA ms 800 u, cI cA me 32 sn2_4], ⟨rfl, by decide⟩, ?_⟩
      have hv := (h_2).1
      refine y_iadd C dX6_allRight_16 ?_
      refine y_istore_n C [(1, .int (zI (n + r_3))), (0, .ref y), (2, .int (zI row))] dX6_allRight_17 (by decide) rfl ?_
      refine y_iinc C 2 [(2, .int (zI (row + 1))), (1, .int (zI (n + r_3))), (0, .ref y)] dX6_allRight_18 rfl (by decide) rfl ?_
      refine y_goto C 4 dX6_allRight_21 (by decide) ?_
      refine y_lsub C [2, 1, 0] (lv' := [(0, .ref y), (1, .int (zI (n + r_3))), (2, .int (zI (row + 1)))]) rfl ?_
      exact ih4 (n + r_3) (row + 1) sn2_4 (by omega) (by refine ⟨?_, by omega, by omega⟩; rw [sumZ_s _ (by omega), ← hn.1, kndR_4, ← hv.1]) (by omega)

set_option maxHeartbeats 4000000 in
set_option maxRecDepth 100000 in
theorem m_X6_changed {l : Launch} {D : va_G} {cA cB : ClassId} {y ms ma mp mk md me mo : Nat} {np ik ml sp wr tp bt lf rg dp : Int} {u av : Int → Int} {fr : Int} (hfr : fr = 32 ∨ fr = 288) (hU : UK u) (hUa : UK av) : MI l yX6_changed cX6_changed 4 .int { frames := 0, cells := 0, slots := 0, locals := 0 } D (zT cA cB) [.ref y, .int (zI fr)] [cO y 6 [.ref ms, .ref ma, .ref mp, .int (zI np), .ref mk, .int (zI ik), .ref md, .int (zI ml), .ref me, .ref mo, .int (zI sp), .int (zI wr), .int (zI tp), .int (zI bt), .int (zI lf), .int (zI rg), .int (zI dp)], cI cA ms 800 u, cI cA ma 800 av] (fun r w => w = [cO y 6 [.ref ms, .ref ma, .ref mp, .int (zI np), .ref mk, .int (zI ik), .ref md, .int (zI ml), .ref me, .ref mo, .int (zI sp), .int (zI wr), .int (zI tp), .int (zI bt), .int (zI lf), .int (zI rg), .int (zI dp)], cI cA ms 800 u, cI cA ma 800 av] ∧ r = difP u av fr ∧ 0 ≤ r ∧ r ≤ 256) := by
  refine MI.of RX6 ⟨rfl, by decide +kernel⟩ (Or.inl rfl) (Nat.le_of_ble_eq_true rfl) (fun h => by cases h) ?_
  intro K C hret
  change K 0 0 _ [(0, .ref y), (1, .int (zI fr))] 0 []
  have hA : ∀ k : Int, 0 ≤ k → k < 256 → (0 ≤ u (fr + k) ∧ u (fr + k) ≤ 7) ∧ 0 ≤ av (fr + k) ∧ av (fr + k) ≤ 7 := fun k a b => by
    rcases hfr with rfl | rfl
    · have h1 := hU.p k a b
      have h2 := hUa.p k a b
      omega
    · have h1 := hU.d k a b
      have h2 := hUa.d k a b
      omega
  refine y_iconst C dX6_changed_0 ?_
  refine y_istore_n C [(2, .int (zI 0)), (0, .ref y), (1, .int (zI fr))] dX6_changed_1 (by decide) rfl ?_
  refine y_iload_n C 2 dX6_changed_2 rfl ?_
  refine y_istore_n C [(3, .int (zI fr)), (2, .int (zI 0)), (0, .ref y), (1, .int (zI fr))] dX6_changed_3 (by decide) rfl ?_
  refine y_lsub C [2, 3, 1, 0] (lv' := [(0, .ref y), (1, .int (zI fr)), (2, .int (zI 0)), (3, .int (zI fr))]) rfl ?_
  suffices hL4 : ∀ (fu : Nat) (n : Int) (j : Int), (fr ≤ j ∧ j ≤ fr + 256) → (n = zcnt (fun k => ¬ u (fr + k) = av (fr + k)) (j - fr) ∧ 0 ≤ n ∧ n ≤ j - fr) → (fr + 256 - j).toNat < fu → K 0 0 [cO y 6 [.ref ms, .ref ma, .ref mp, .int (zI np), .ref mk, .int (zI ik), .ref md, .int (zI ml), .ref me, .ref mo, .int (zI sp), .int (zI wr), .int (zI tp), .int (zI bt), .int (zI lf), .int (zI rg), .int (zI dp)], cI cA ms 800 u, cI cA ma 800 av] [(0, .ref y), (1, .int (zI fr)), (2, .int (zI n)), (3, .int (zI j))] 4 [] from hL4 _ 0 fr (by omega) (by refine ⟨?_, by omega, by omega⟩; rw [Int.sub_self]; rfl) (Nat.lt_succ_self _)
  intro f4
  induction f4 with
  | zero => exact fun _ _ _ _ hf => absurd hf (Nat.not_lt_zero _)
  | succ f4 ih4 =>
    intro n j hj hn hf4
    refine y_iload_n C 3 dX6_changed_4 rfl ?_
    refine y_iload_n C 1 dX6_changed_5 rfl ?_
    refine y_sipush C dX6_changed_6 (by decide +kernel) ?_
    refine y_iadd C dX6_changed_9 ?_
    refine y_icmp_ge C 42 dX6_changed_10 (by decide) ⟨⟨by omega, by omega⟩, ⟨by omega, by omega⟩⟩ (fun c_1 => ?_) (fun c_1 => ?_)
    · refine y_iload_n C 2 dX6_changed_42 rfl ?_
      refine hret _ _ _ _ dX6_changed_43 ⟨rfl, ?_⟩
      show n = difP u av fr ∧ 0 ≤ n ∧ n ≤ 256
      obtain rfl : j = fr + 256 := by omega
      rw [show fr + 256 - fr = 256 by omega] at hn
      exact hn
    · have hAj := hA (j - fr) (by omega) (by omega)
      rw [show fr + (j - fr) = j by omega] at hAj
      refine y_iload_n C 2 dX6_changed_13 rfl ?_
      refine y_aload_n C 0 dX6_changed_14 rfl ?_
      refine y_get C fg_X6_7 0 dX6_changed_15 rfl rfl ?_
      refine y_iload_n C 3 dX6_changed_18 rfl ?_
      refine y_iald C 1 0 dX6_changed_19 rfl rfl ⟨by omega, by omega, by omega⟩ ?_
      refine y_aload_n C 0 dX6_changed_20 rfl ?_
      refine y_get C fg_X6_13 0 dX6_changed_21 rfl rfl ?_
      refine y_iload_n C 3 dX6_changed_24 rfl ?_
      refine y_iald C 2 0 dX6_changed_25 rfl rfl ⟨by omega, by omega, by omega⟩ ?_
      refine y_icmp_eq C 33 dX6_changed_26 (by decide) ⟨⟨by omega, by omega⟩, ⟨by omega, by omega⟩⟩ (fun c_2 => ?_) (fun c_2 => ?_)
      · refine y_iconst C dX6_changed_33 ?_
        refine y_iadd C dX6_changed_34 ?_
        refine y_istore_n C [(2, .int (zI (n + 0))), (0, .ref y), (1, .int (zI fr)), (3, .int (zI j))] dX6_changed_35 (by decide) rfl ?_
        refine y_iinc C 3 [(3, .int (zI (j + 1))), (2, .int (zI (n + 0))), (0, .ref y), (1, .int (zI fr))] dX6_changed_36 rfl (by decide) rfl ?_
        refine y_goto C 4 dX6_changed_39 (by decide) ?_
        refine y_lsub C [2, 3, 1, 0] (lv' := [(0, .ref y), (1, .int (zI fr)), (2, .int (zI (n + 0))), (3, .int (zI (j + 1)))]) rfl ?_
        exact ih4 (n + 0) (j + 1) (by omega) (by refine ⟨?_, by omega, by omega⟩; rw [show j + 1 - fr = (j - fr) + 1 by omega]; exact zcnt_step (by omega) hn.1 (by rw [show fr + (j - fr) = j by omega]; omega)) (by omega)
      · refine y_iconst C dX6_changed_29 ?_
        refine y_goto C 34 dX6_changed_30 (by decide) ?_
        refine y_iadd C dX6_changed_34 ?_
        refine y_istore_n C [(2, .int (zI (n + 1))), (0, .ref y), (1, .int (zI fr)), (3, .int (zI j))] dX6_changed_35 (by decide) rfl ?_
        refine y_iinc C 3 [(3, .int (zI (j + 1))), (2, .int (zI (n + 1))), (0, .ref y), (1, .int (zI fr))] dX6_changed_36 rfl (by decide) rfl ?_
        refine y_goto C 4 dX6_changed_39 (by decide) ?_
        refine y_lsub C [2, 3, 1, 0] (lv' := [(0, .ref y), (1, .int (zI fr)), (2, .int (zI (n + 1))), (3, .int (zI (j + 1)))]) rfl ?_
        exact ih4 (n + 1) (j + 1) (by omega) (by refine ⟨?_, by omega, by omega⟩; rw [show j + 1 - fr = (j - fr) + 1 by omega]; exact zcnt_step (by omega) hn.1 (by rw [show fr + (j - fr) = j by omega]; omega)) (by omega)

set_option maxHeartbeats 4000000 in
set_option maxRecDepth 100000 in
theorem m_X6_lays {l : Launch} {D : va_G} {cA cB : ClassId} {y ms ma mp mk md me mo : Nat} {np ik ml sp wr tp bt lf rg dp : Int} {u : Int → Int} {top left bottom right pl : Int} (ht : 0 ≤ top ∧ top ≤ bottom ∧ bottom ≤ 7) (hl : 0 ≤ left ∧ left ≤ right ∧ right ≤ 31) : MV l yX6_lays cX6_lays 8 { frames := 1, cells := 0, slots := 0, locals := 21 } D (zT cA cB) [.ref y, .int (zI top), .int (zI left), .int (zI bottom), .int (zI right), .int (zI pl)] [cO y 6 [.ref ms, .ref ma, .ref mp, .int (zI np), .ref mk, .int (zI ik), .ref md, .int (zI ml), .ref me, .ref mo, .int (zI sp), .int (zI wr), .int (zI tp), .int (zI bt), .int (zI lf), .int (zI rg), .int (zI dp)], cI cA ms 800 u] (fun w => ∃ (u2 : Int → Int), w = [cO y 6 [.ref ms, .ref ma, .ref mp, .int (zI np), .ref mk, .int (zI ik), .ref md, .int (zI ml), .ref me, .ref mo, .int (zI sp), .int (zI wr), .int (zI tp), .int (zI bt), .int (zI lf), .int (zI rg), .int (zI dp)], cI cA ms 800 u2] ∧ (∀ j : Int, 0 ≤ j → j < 800 → u2 j = layU u top left bottom right pl j)) := by
  refine MV.of RX6 ⟨rfl, by decide +kernel⟩ (Nat.le_of_ble_eq_true rfl) ?_
  intro K C hret
  change K 0 0 _ [(0, .ref y), (1, .int (zI top)), (2, .int (zI left)), (3, .int (zI bottom)), (4, .int (zI right)), (5, .int (zI pl))] 0 []
  refine y_iload_n C 1 dX6_lays_0 rfl ?_
  refine y_istore C [(6, .int (zI top)), (0, .ref y), (1, .int (zI top)), (2, .int (zI left)), (3, .int (zI bottom)), (4, .int (zI right)), (5, .int (zI pl))] dX6_lays_1 (by decide) rfl ?_
  refine y_lsub C [1, 2, 3, 4, 5, 6, 0] (lv' := [(0, .ref y), (1, .int (zI top)), (2, .int (zI left)), (3, .int (zI bottom)), (4, .int (zI right)), (5, .int (zI pl)), (6, .int (zI top))]) rfl ?_
  suffices hL3 : ∀ (fu : Nat) (row : Int) (u1 : Int → Int), (top ≤ row ∧ row ≤ bottom + 1) → (∀ j : Int, 0 ≤ j → j < 800 → u1 j = if ((32 ≤ j ∧ j < 288) ∧ (top ≤ (j - 32) / 32 ∧ (j - 32) / 32 < row) ∧ (left ≤ j % 32 ∧ j % 32 ≤ right)) then pl else u j) → (9 - row).toNat < fu → K 0 0 [cO y 6 [.ref ms, .ref ma, .ref mp, .int (zI np), .ref mk, .int (zI ik), .ref md, .int (zI ml), .ref me, .ref mo, .int (zI sp), .int (zI wr), .int (zI tp), .int (zI bt), .int (zI lf), .int (zI rg), .int (zI dp)], cI cA ms 800 u1] [(0, .ref y), (1, .int (zI top)), (2, .int (zI left)), (3, .int (zI bottom)), (4, .int (zI right)), (5, .int (zI pl)), (6, .int (zI row))] 3 [] from hL3 _ top u (by omega) (by intro j a b; rw [if_neg (by omega)]) (Nat.lt_succ_self _)
  intro f3
  induction f3 with
  | zero => exact fun _ _ _ _ hf => absurd hf (Nat.not_lt_zero _)
  | succ f3 ih3 =>
    intro row u1 hr hi hf3
    refine y_iload C 6 dX6_lays_3 rfl ?_
    refine y_iload_n C 3 dX6_lays_5 rfl ?_
    refine y_icmp_gt C 48 dX6_lays_6 (by decide) ⟨⟨by omega, by omega⟩, ⟨by omega, by omega⟩⟩ (fun c_1 => ?_) (fun c_1 => ?_)
    · refine hret _ _ _ dX6_lays_48 ⟨u1, rfl, ?_⟩
      show (∀ j : Int, 0 ≤ j → j < 800 → u1 j = layU u top left bottom right pl j)
      intro j a b
      rw [hi j a b]
      unfold layU
      (repeat' split) <;> first | rfl | (exfalso; omega)
    · refine y_iload_n C 2 dX6_lays_9 rfl ?_
      refine y_istore C [(7, .int (zI left)), (0, .ref y), (1, .int (zI top)), (2, .int (zI left)), (3, .int (zI bottom)), (4, .int (zI right)), (5, .int (zI pl)), (6, .int (zI row))] dX6_lays_10 (by decide) rfl ?_
      refine y_lsub C [1, 2, 3, 4, 5, 6, 7, 0] (lv' := [(0, .ref y), (1, .int (zI top)), (2, .int (zI left)), (3, .int (zI bottom)), (4, .int (zI right)), (5, .int (zI pl)), (6, .int (zI row)), (7, .int (zI left))]) rfl ?_
      suffices hL12 : ∀ (fu : Nat) (col : Int) (u3 : Int → Int), (left ≤ col ∧ col ≤ right + 1) → (∀ j : Int, 0 ≤ j → j < 800 → u3 j = if ((32 ≤ j ∧ j < 288) ∧ (top ≤ (j - 32) / 32 ∧ (j - 32) / 32 < row) ∧ (left ≤ j % 32 ∧ j % 32 ≤ right)) ∨ ((32 ≤ j ∧ j < 288) ∧ (j - 32) / 32 = row ∧ left ≤ j % 32 ∧ j % 32 < col) then pl else u j) → (33 - col).toNat < fu → K 0 0 [cO y 6 [.ref ms, .ref ma, .ref mp, .int (zI np), .ref mk, .int (zI ik), .ref md, .int (zI ml), .ref me, .ref mo, .int (zI sp), .int (zI wr), .int (zI tp), .int (zI bt), .int (zI lf), .int (zI rg), .int (zI dp)], cI cA ms 800 u3] [(0, .ref y), (1, .int (zI top)), (2, .int (zI left)), (3, .int (zI bottom)), (4, .int (zI right)), (5, .int (zI pl)), (6, .int (zI row)), (7, .int (zI col))] 12 [] from hL12 _ left u1 (by omega) (by intro j a b; rw [hi j a b]; (repeat' split) <;> first | rfl | (exfalso; omega)) (Nat.lt_succ_self _)
      intro f12
      induction f12 with
      | zero => exact fun _ _ _ _ hf => absurd hf (Nat.not_lt_zero _)
      | succ f12 ih12 =>
        intro col u3 hcl hi2 hf12
        refine y_iload C 7 dX6_lays_12 rfl ?_
        refine y_iload C 4 dX6_lays_14 rfl ?_
        refine y_icmp_gt C 42 dX6_lays_16 (by decide) ⟨⟨by omega, by omega⟩, ⟨by omega, by omega⟩⟩ (fun c_2 => ?_) (fun c_2 => ?_)
        · refine y_iinc C 6 [(6, .int (zI (row + 1))), (0, .ref y), (1, .int (zI top)), (2, .int (zI left)), (3, .int (zI bottom)), (4, .int (zI right)), (5, .int (zI pl)), (7, .int (zI col))] dX6_lays_42 rfl (by decide) rfl ?_
          refine y_goto C 3 dX6_lays_45 (by decide) ?_
          refine y_lsub C [1, 2, 3, 4, 5, 6, 0] (lv' := [(0, .ref y), (1, .int (zI top)), (2, .int (zI left)), (3, .int (zI bottom)), (4, .int (zI right)), (5, .int (zI pl)), (6, .int (zI (row + 1)))]) rfl ?_
          exact ih3 (row + 1) u3 (by omega) (by intro j a b; rw [hi2 j a b]; (repeat' split) <;> first | rfl | (exfalso; omega)) (by omega)
        · refine y_aload_n C 0 dX6_lays_19 rfl ?_
          refine y_get C fg_X6_7 0 dX6_lays_20 rfl rfl ?_
          refine y_bipush C dX6_lays_23 (by decide +kernel) ?_
          refine y_iload C 6 dX6_lays_25 rfl ?_
          refine y_iload C 7 dX6_lays_27 rfl ?_
          refine y_pcalls C (m_X6_place (l := l) (D := D) (cA := cA) (cB := cB) (rr := row) (cc := col) ) lk_X6_35 [] [0, 1] [0, 1] ⟨rfl, rfl, by decide, by decide, by decide⟩ ⟨rfl, by decide⟩ dX6_lays_29 rfl rfl ⟨by exact Nat.le_of_ble_eq_true rfl, by exact Nat.le_of_ble_eq_true rfl, rfl, rfl, by exact Nat.le_of_ble_eq_true rfl, by exact Nat.le_of_ble_eq_true rfl, by exact Nat.le_of_ble_eq_true rfl⟩ (fun r_4 h_3 => ?_)
          refine y_iadd C dX6_lays_32 ?_
          refine y_top (show (32 + r_4) = (32 + (row * 32 + col)) from by omega) ?_
          refine y_iload C 5 dX6_lays_33 rfl ?_
          refine y_iast C 1 0 [cO y 6 [.ref ms, .ref ma, .ref mp, .int (zI np), .ref mk, .int (zI ik), .ref md, .int (zI ml), .ref me, .ref mo, .int (zI sp), .int (zI wr), .int (zI tp), .int (zI bt), .int (zI lf), .int (zI rg), .int (zI dp)], cI cA ms 800 (zU u3 (32 + (row * 32 + col)) pl)] dX6_lays_35 rfl rfl ⟨by omega, by omega, by omega⟩ rfl ?_
          refine y_iinc C 7 [(7, .int (zI (col + 1))), (0, .ref y), (1, .int (zI top)), (2, .int (zI left)), (3, .int (zI bottom)), (4, .int (zI right)), (5, .int (zI pl)), (6, .int (zI row))] dX6_lays_36 rfl (by decide) rfl ?_
          refine y_goto C 12 dX6_lays_39 (by decide) ?_
          refine y_lsub C [1, 2, 3, 4, 5, 6, 7, 0] (lv' := [(0, .ref y), (1, .int (zI top)), (2, .int (zI left)), (3, .int (zI bottom)), (4, .int (zI right)), (5, .int (zI pl)), (6, .int (zI row)), (7, .int (zI (col + 1)))]) rfl ?_
          exact ih12 (col + 1) (zU u3 (32 + (row * 32 + col)) pl) (by omega) (by intro j a b; unfold zU; rw [hi2 j a b]; (repeat' split) <;> first | rfl | (exfalso; omega)) (by omega)

set_option maxHeartbeats 4000000 in
set_option maxRecDepth 100000 in
theorem m_X6_records {l : Launch} {D : va_G} {cA cB : ClassId} {y ms ma mp mk md me mo : Nat} {np ik ml sp wr tp bt lf rg dp : Int} {u past : Int → Int} (hnp : 0 ≤ np ∧ np ≤ 4) : MV l yX6_records cX6_records 2 { frames := 0, cells := 0, slots := 0, locals := 0 } D (zT cA cB) [.ref y] [cO y 6 [.ref ms, .ref ma, .ref mp, .int (zI np), .ref mk, .int (zI ik), .ref md, .int (zI ml), .ref me, .ref mo, .int (zI sp), .int (zI wr), .int (zI tp), .int (zI bt), .int (zI lf), .int (zI rg), .int (zI dp)], cI cA ms 800 u, cI cA mp 3200 past] (fun w => ∃ (past2 : Int → Int), ∃ (np2 : Int), w = [cO y 6 [.ref ms, .ref ma, .ref mp, .int (zI np2), .ref mk, .int (zI ik), .ref md, .int (zI ml), .ref me, .ref mo, .int (zI sp), .int (zI wr), .int (zI tp), .int (zI bt), .int (zI lf), .int (zI rg), .int (zI dp)], cI cA ms 800 u, cI cA mp 3200 past2] ∧ (∀ j : Int, 0 ≤ j → j < 800 * np2 → past2 j = recP past u np j) ∧ (np2 = nxS np)) := by
  refine MV.of RX6 ⟨rfl, by decide +kernel⟩ (Nat.le_of_ble_eq_true rfl) ?_
  intro K C hret
  change K 0 0 _ [(0, .ref y)] 0 []
  refine y_aload_n C 0 dX6_records_0 rfl ?_
  refine y_get C fg_X6_39 0 dX6_records_1 rfl rfl ?_
  refine y_iconst C dX6_records_4 ?_
  refine y_icmp_ne C 49 dX6_records_5 (by decide) ⟨⟨by omega, by omega⟩, ⟨by omega, by omega⟩⟩ (fun c_1 => ?_) (fun c_1 => ?_)
  · refine y_iconst C dX6_records_49 ?_
    refine y_istore_n C [(1, .int (zI 0)), (0, .ref y)] dX6_records_50 (by decide) rfl ?_
    refine y_lsub C [1, 0] (lv' := [(0, .ref y), (1, .int (zI 0))]) rfl ?_
    suffices hL51 : ∀ (fu : Nat) (k : Int) (p2 : Int → Int), (0 ≤ k ∧ k ≤ 800) → (∀ j : Int, 0 ≤ j → j < 3200 → p2 j = if 800 * np ≤ j ∧ j < 800 * np + k then u (j - 800 * np) else past j) → (900 - k).toNat < fu → K 0 0 [cO y 6 [.ref ms, .ref ma, .ref mp, .int (zI np), .ref mk, .int (zI ik), .ref md, .int (zI ml), .ref me, .ref mo, .int (zI sp), .int (zI wr), .int (zI tp), .int (zI bt), .int (zI lf), .int (zI rg), .int (zI dp)], cI cA ms 800 u, cI cA mp 3200 p2] [(0, .ref y), (1, .int (zI k))] 51 [] from hL51 _ 0 past (by omega) (by intro j a b; rw [if_neg (by omega)]) (Nat.lt_succ_self _)
    intro f51
    induction f51 with
    | zero => exact fun _ _ _ _ hf => absurd hf (Nat.not_lt_zero _)
    | succ f51 ih51 =>
      intro k p2 hk2 hp2 hf51
      refine y_iload_n C 1 dX6_records_51 rfl ?_
      refine y_sipush C dX6_records_52 (by decide +kernel) ?_
      refine y_icmp_ge C 85 dX6_records_55 (by decide) ⟨⟨by omega, by omega⟩, ⟨by omega, by omega⟩⟩ (fun c_2 => ?_) (fun c_2 => ?_)
      · refine y_aload_n C 0 dX6_records_85 rfl ?_
        refine y_dup C dX6_records_86 rfl ?_
        refine y_get C fg_X6_39 0 dX6_records_87 rfl rfl ?_
        refine y_iconst C dX6_records_90 ?_
        refine y_iadd C dX6_records_91 ?_
        refine y_put C fp_X6_39 0 [cO y 6 [.ref ms, .ref ma, .ref mp, .int (zI (np + 1)), .ref mk, .int (zI ik), .ref md, .int (zI ml), .ref me, .ref mo, .int (zI sp), .int (zI wr), .int (zI tp), .int (zI bt), .int (zI lf), .int (zI rg), .int (zI dp)], cI cA ms 800 u, cI cA mp 3200 p2] dX6_records_92 rfl rfl rfl (by exact Nat.le_of_ble_eq_true rfl) rfl ?_
        refine hret _ _ _ dX6_records_95 ⟨p2, (np + 1), rfl, ?_⟩
        show (∀ j : Int, 0 ≤ j → j < 800 * (np + 1) → p2 j = recP past u np j) ∧ ((np + 1) = nxS np)
        refine ⟨fun j a b => ?_, by unfold nxS; split <;> omega⟩
        rw [hp2 j a (by omega)]
        unfold recP
        first
        | (rw [if_neg (c := np = 4) (by omega)]; (repeat' split) <;> first | rfl | (exfalso; omega))
        | (rw [if_pos (c := np = 4) (by omega)]; (repeat' split) <;> first | rfl | (exfalso; omega) | (congr 1; omega) | (rw [hp1 j a (by omega)]; (repeat' split) <;> first | rfl | (exfalso; omega)))
      · refine y_aload_n C 0 dX6_records_58 rfl ?_
        refine y_get C fg_X6_16 0 dX6_records_59 rfl rfl ?_
        refine y_sipush C dX6_records_62 (by decide +kernel) ?_
        refine y_aload_n C 0 dX6_records_65 rfl ?_
        refine y_get C fg_X6_39 0 dX6_records_66 rfl rfl ?_
        refine y_imul C dX6_records_69 ?_
        refine y_iload_n C 1 dX6_records_70 rfl ?_
        refine y_iadd C dX6_records_71 ?_
        refine y_aload_n C 0 dX6_records_72 rfl ?_
        refine y_get C fg_X6_7 0 dX6_records_73 rfl rfl ?_
        refine y_iload_n C 1 dX6_records_76 rfl ?_
        refine y_iald C 1 0 dX6_records_77 rfl rfl ⟨by omega, by omega, by omega⟩ ?_
        refine y_iast C 2 0 [cO y 6 [.ref ms, .ref ma, .ref mp, .int (zI np), .ref mk, .int (zI ik), .ref md, .int (zI ml), .ref me, .ref mo, .int (zI sp), .int (zI wr), .int (zI tp), .int (zI bt), .int (zI lf), .int (zI rg), .int (zI dp)], cI cA ms 800 u, cI cA mp 3200 (zU p2 ((800 * np) + k) (u k))] dX6_records_78 rfl rfl ⟨by omega, by omega, by omega⟩ rfl ?_
        refine y_iinc C 1 [(1, .int (zI (k + 1))), (0, .ref y)] dX6_records_79 rfl (by decide) rfl ?_
        refine y_goto C 51 dX6_records_82 (by decide) ?_
        refine y_lsub C [1, 0] (lv' := [(0, .ref y), (1, .int (zI (k + 1)))]) rfl ?_
        exact ih51 (k + 1) (zU p2 ((800 * np) + k) (u k)) (by omega) (by intro j a b; exact (Classical.em (j = 800 * np + k)).elim (fun q => by subst q; rw [zU_s, if_pos (by omega)]; congr 1; omega) (fun q => by rw [zU_n q, hp2 j a b]; (repeat' split) <;> first | rfl | (exfalso; omega))) (by omega)
  · refine y_iconst C dX6_records_8 ?_
    refine y_istore_n C [(1, .int (zI 0)), (0, .ref y)] dX6_records_9 (by decide) rfl ?_
    refine y_lsub C [1, 0] (lv' := [(0, .ref y), (1, .int (zI 0))]) rfl ?_
    suffices hL10 : ∀ (fu : Nat) (k : Int) (p1 : Int → Int), (0 ≤ k ∧ k ≤ 2400) → (∀ j : Int, 0 ≤ j → j < 3200 → p1 j = if j < k then past (800 + j) else past j) → (2500 - k).toNat < fu → K 0 0 [cO y 6 [.ref ms, .ref ma, .ref mp, .int (zI np), .ref mk, .int (zI ik), .ref md, .int (zI ml), .ref me, .ref mo, .int (zI sp), .int (zI wr), .int (zI tp), .int (zI bt), .int (zI lf), .int (zI rg), .int (zI dp)], cI cA ms 800 u, cI cA mp 3200 p1] [(0, .ref y), (1, .int (zI k))] 10 [] from hL10 _ 0 past (by omega) (by intro j a b; rw [if_neg (by omega)]) (Nat.lt_succ_self _)
    intro f10
    induction f10 with
    | zero => exact fun _ _ _ _ hf => absurd hf (Nat.not_lt_zero _)
    | succ f10 ih10 =>
      intro k p1 hk hp1 hf10
      refine y_iload_n C 1 dX6_records_10 rfl ?_
      refine y_sipush C dX6_records_11 (by decide +kernel) ?_
      refine y_icmp_ge C 39 dX6_records_14 (by decide) ⟨⟨by omega, by omega⟩, ⟨by omega, by omega⟩⟩ (fun c_3 => ?_) (fun c_3 => ?_)
      · refine y_aload_n C 0 dX6_records_39 rfl ?_
        refine y_dup C dX6_records_40 rfl ?_
        refine y_get C fg_X6_39 0 dX6_records_41 rfl rfl ?_
        refine y_iconst C dX6_records_44 ?_
        refine y_isub C dX6_records_45 ?_
        refine y_put C fp_X6_39 0 [cO y 6 [.ref ms, .ref ma, .ref mp, .int (zI (np - 1)), .ref mk, .int (zI ik), .ref md, .int (zI ml), .ref me, .ref mo, .int (zI sp), .int (zI wr), .int (zI tp), .int (zI bt), .int (zI lf), .int (zI rg), .int (zI dp)], cI cA ms 800 u, cI cA mp 3200 p1] dX6_records_46 rfl rfl rfl (by exact Nat.le_of_ble_eq_true rfl) rfl ?_
        refine y_iconst C dX6_records_49 ?_
        refine y_istore_n C [(1, .int (zI 0)), (0, .ref y)] dX6_records_50 (by decide) rfl ?_
        refine y_lsub C [1, 0] (lv' := [(0, .ref y), (1, .int (zI 0))]) rfl ?_
        suffices hL51 : ∀ (fu : Nat) (k : Int) (p2 : Int → Int), (0 ≤ k ∧ k ≤ 800) → (∀ j : Int, 0 ≤ j → j < 3200 → p2 j = if 800 * (np - 1) ≤ j ∧ j < 800 * (np - 1) + k then u (j - 800 * (np - 1)) else p1 j) → (900 - k).toNat < fu → K 0 0 [cO y 6 [.ref ms, .ref ma, .ref mp, .int (zI (np - 1)), .ref mk, .int (zI ik), .ref md, .int (zI ml), .ref me, .ref mo, .int (zI sp), .int (zI wr), .int (zI tp), .int (zI bt), .int (zI lf), .int (zI rg), .int (zI dp)], cI cA ms 800 u, cI cA mp 3200 p2] [(0, .ref y), (1, .int (zI k))] 51 [] from hL51 _ 0 p1 (by omega) (by intro j a b; rw [if_neg (by omega)]) (Nat.lt_succ_self _)
        intro f51
        induction f51 with
        | zero => exact fun _ _ _ _ hf => absurd hf (Nat.not_lt_zero _)
        | succ f51 ih51 =>
          intro k p2 hk2 hp2 hf51
          refine y_iload_n C 1 dX6_records_51 rfl ?_
          refine y_sipush C dX6_records_52 (by decide +kernel) ?_
          refine y_icmp_ge C 85 dX6_records_55 (by decide) ⟨⟨by omega, by omega⟩, ⟨by omega, by omega⟩⟩ (fun c_4 => ?_) (fun c_4 => ?_)
          · refine y_aload_n C 0 dX6_records_85 rfl ?_
            refine y_dup C dX6_records_86 rfl ?_
            refine y_get C fg_X6_39 0 dX6_records_87 rfl rfl ?_
            refine y_iconst C dX6_records_90 ?_
            refine y_iadd C dX6_records_91 ?_
            refine y_put C fp_X6_39 0 [cO y 6 [.ref ms, .ref ma, .ref mp, .int (zI ((np - 1) + 1)), .ref mk, .int (zI ik), .ref md, .int (zI ml), .ref me, .ref mo, .int (zI sp), .int (zI wr), .int (zI tp), .int (zI bt), .int (zI lf), .int (zI rg), .int (zI dp)], cI cA ms 800 u, cI cA mp 3200 p2] dX6_records_92 rfl rfl rfl (by exact Nat.le_of_ble_eq_true rfl) rfl ?_
            refine hret _ _ _ dX6_records_95 ⟨p2, ((np - 1) + 1), rfl, ?_⟩
            show (∀ j : Int, 0 ≤ j → j < 800 * ((np - 1) + 1) → p2 j = recP past u np j) ∧ (((np - 1) + 1) = nxS np)
            refine ⟨fun j a b => ?_, by unfold nxS; split <;> omega⟩
            rw [hp2 j a (by omega)]
            unfold recP
            first
            | (rw [if_neg (c := np = 4) (by omega)]; (repeat' split) <;> first | rfl | (exfalso; omega))
            | (rw [if_pos (c := np = 4) (by omega)]; (repeat' split) <;> first | rfl | (exfalso; omega) | (congr 1; omega) | (rw [hp1 j a (by omega)]; (repeat' split) <;> first | rfl | (exfalso; omega)))
          · refine y_aload_n C 0 dX6_records_58 rfl ?_
            refine y_get C fg_X6_16 0 dX6_records_59 rfl rfl ?_
            refine y_sipush C dX6_records_62 (by decide +kernel) ?_
            refine y_aload_n C 0 dX6_records_65 rfl ?_
            refine y_get C fg_X6_39 0 dX6_records_66 rfl rfl ?_
            refine y_imul C dX6_records_69 ?_
            refine y_iload_n C 1 dX6_records_70 rfl ?_
            refine y_iadd C dX6_records_71 ?_
            refine y_aload_n C 0 dX6_records_72 rfl ?_
            refine y_get C fg_X6_7 0 dX6_records_73 rfl rfl ?_
            refine y_iload_n C 1 dX6_records_76 rfl ?_
            refine y_iald C 1 0 dX6_records_77 rfl rfl ⟨by omega, by omega, by omega⟩ ?_
            refine y_iast C 2 0 [cO y 6 [.ref ms, .ref ma, .ref mp, .int (zI (np - 1)), .ref mk, .int (zI ik), .ref md, .int (zI ml), .ref me, .ref mo, .int (zI sp), .int (zI wr), .int (zI tp), .int (zI bt), .int (zI lf), .int (zI rg), .int (zI dp)], cI cA ms 800 u, cI cA mp 3200 (zU p2 ((800 * (np - 1)) + k) (u k))] dX6_records_78 rfl rfl ⟨by omega, by omega, by omega⟩ rfl ?_
            refine y_iinc C 1 [(1, .int (zI (k + 1))), (0, .ref y)] dX6_records_79 rfl (by decide) rfl ?_
            refine y_goto C 51 dX6_records_82 (by decide) ?_
            refine y_lsub C [1, 0] (lv' := [(0, .ref y), (1, .int (zI (k + 1)))]) rfl ?_
            exact ih51 (k + 1) (zU p2 ((800 * (np - 1)) + k) (u k)) (by omega) (by intro j a b; exact (Classical.em (j = 800 * (np - 1) + k)).elim (fun q => by subst q; rw [zU_s, if_pos (by omega)]; congr 1; omega) (fun q => by rw [zU_n q, hp2 j a b]; (repeat' split) <;> first | rfl | (exfalso; omega))) (by omega)
      · refine y_aload_n C 0 dX6_records_17 rfl ?_
        refine y_get C fg_X6_16 0 dX6_records_18 rfl rfl ?_
        refine y_iload_n C 1 dX6_records_21 rfl ?_
        refine y_aload_n C 0 dX6_records_22 rfl ?_
        refine y_get C fg_X6_16 0 dX6_records_23 rfl rfl ?_
        refine y_sipush C dX6_records_26 (by decide +kernel) ?_
        refine y_iload_n C 1 dX6_records_29 rfl ?_
        refine y_iadd C dX6_records_30 ?_
        refine y_iald C 2 0 dX6_records_31 rfl rfl ⟨by omega, by omega, by omega⟩ ?_
        refine y_iast C 2 0 [cO y 6 [.ref ms, .ref ma, .ref mp, .int (zI np), .ref mk, .int (zI ik), .ref md, .int (zI ml), .ref me, .ref mo, .int (zI sp), .int (zI wr), .int (zI tp), .int (zI bt), .int (zI lf), .int (zI rg), .int (zI dp)], cI cA ms 800 u, cI cA mp 3200 (zU p1 k (p1 (800 + k)))] dX6_records_32 rfl rfl ⟨by omega, by omega, by omega⟩ rfl ?_
        refine y_iinc C 1 [(1, .int (zI (k + 1))), (0, .ref y)] dX6_records_33 rfl (by decide) rfl ?_
        refine y_goto C 10 dX6_records_36 (by decide) ?_
        refine y_lsub C [1, 0] (lv' := [(0, .ref y), (1, .int (zI (k + 1)))]) rfl ?_
        exact ih10 (k + 1) (zU p1 k (p1 (800 + k))) (by omega) (by intro j a b; exact (Classical.em (j = k)).elim (fun q => by subst q; rw [zU_s, if_pos (by omega), hp1 _ (by omega) (by omega), if_neg (by omega)]) (fun q => by rw [zU_n q, hp1 j a b]; (repeat' split) <;> first | rfl | (exfalso; omega))) (by omega)

set_option maxHeartbeats 4000000 in
set_option maxRecDepth 100000 in
theorem m_X6_prints {l : Launch} {D : va_G} {cA cB : ClassId} {y ms ma mp mk md me mo : Nat} {np ik ml sp wr tp bt lf rg dp : Int} {u : Int → Int} {row : Int} (hrow : 0 ≤ row ∧ row < 8) (hU : UK u) : MV l yX6_prints cX6_prints 6 { frames := 3, cells := 0, slots := 0, locals := 66 } D (zT cA cB) [.ref y, .int (zI row)] [cO y 6 [.ref ms, .ref ma, .ref mp, .int (zI np), .ref mk, .int (zI ik), .ref md, .int (zI ml), .ref me, .ref mo, .int (zI sp), .int (zI wr), .int (zI tp), .int (zI bt), .int (zI lf), .int (zI rg), .int (zI dp)], cI cA ms 800 u] (fun w => ∃ (u2 : Int → Int), w = [cO y 6 [.ref ms, .ref ma, .ref mp, .int (zI np), .ref mk, .int (zI ik), .ref md, .int (zI ml), .ref me, .ref mo, .int (zI sp), .int (zI wr), .int (zI tp), .int (zI bt), .int (zI lf), .int (zI rg), .int (zI dp)], cI cA ms 800 u2] ∧ (∀ j : Int, 0 ≤ j → j < 800 → u2 j = printU u row j)) := by
  refine MV.of RX6 ⟨rfl, by decide +kernel⟩ (Nat.le_of_ble_eq_true rfl) ?_
  intro K C hret
  change K 0 0 _ [(0, .ref y), (1, .int (zI row))] 0 []
  have hus := hU.s
  have hup := hU.p
  have hud := hU.d
  have huk := hU.k
  have hul := hU.len
  have hut := hU.lot
  have hpu := hU.zpu hrow
  have hst := hU.str
  have hd0 := fun (k : Int) (a : 0 ≤ k) (b : k < 32) => hU.rd hrow a b
  refine y_iconst C dX6_prints_0 ?_
  refine y_istore_n C [(2, .int (zI 0)), (0, .ref y), (1, .int (zI row))] dX6_prints_1 (by decide) rfl ?_
  refine y_iconst C dX6_prints_2 ?_
  refine y_istore_n C [(3, .int (zI 0)), (2, .int (zI 0)), (0, .ref y), (1, .int (zI row))] dX6_prints_3 (by decide) rfl ?_
  refine y_lsub C [2, 3, 1, 0] (lv' := [(0, .ref y), (1, .int (zI row)), (2, .int (zI 0)), (3, .int (zI 0))]) rfl ?_
  suffices hL4 : ∀ (fu : Nat) (fr : Int) (c : Int) (u1 : Int → Int), (0 ≤ c ∧ c ≤ 32) → (fr = (prZ (u 0) (zp u row) (zd u row) (fun j => u (8 + j)) (u 7) (u 1) (u 6) c).2.1) → (∀ j : Int, 0 ≤ j → j < 800 → u1 j = pgF u row (prZ (u 0) (zp u row) (zd u row) (fun j => u (8 + j)) (u 7) (u 1) (u 6) c).1 c (prZ (u 0) (zp u row) (zd u row) (fun j => u (8 + j)) (u 7) (u 1) (u 6) c).2.2 j) → (32 - c).toNat < fu → K 0 0 [cO y 6 [.ref ms, .ref ma, .ref mp, .int (zI np), .ref mk, .int (zI ik), .ref md, .int (zI ml), .ref me, .ref mo, .int (zI sp), .int (zI wr), .int (zI tp), .int (zI bt), .int (zI lf), .int (zI rg), .int (zI dp)], cI cA ms 800 u1] [(0, .ref y), (1, .int (zI row)), (2, .int (zI fr)), (3, .int (zI c))] 4 [] from hL4 _ 0 0 u (by omega) (by rfl) (by exact fun j a b => pgF_0 hrow) (Nat.lt_succ_self _)
  intro f4
  induction f4 with
  | zero => exact fun _ _ _ _ _ _ hf => absurd hf (Nat.not_lt_zero _)
  | succ f4 ih4 =>
    intro fr c u1 hc hfr hg hf4
    refine y_iload_n C 3 dX6_prints_4 rfl ?_
    refine y_bipush C dX6_prints_5 (by decide +kernel) ?_
    refine y_icmp_ge C 150 dX6_prints_7 (by decide) ⟨⟨by omega, by omega⟩, ⟨by omega, by omega⟩⟩ (fun c_1 => ?_) (fun c_1 => ?_)
    · refine hret _ _ _ dX6_prints_150 ⟨u1, rfl, ?_⟩
      show (∀ j : Int, 0 ≤ j → j < 800 → u1 j = printU u row j)
      obtain rfl : c = 32 := by omega
      exact fun j a b => (hg j a b).trans (printU_pg hrow).symm
    · have hr := prN_r (per := u 0) (len := u 7) (col := u 1) (lot := u 6) (T := fun j => u (8 + j)) hpu hd0 hst hus.2.1 hut c.toNat (by omega)
      have hf0 := prN_f (per := u 0) (len := u 7) (col := u 1) (lot := u 6) (p := zp u row) (d := zd u row) (T := fun j => u (8 + j)) c.toNat
      have hrD : ∀ k : Int, 0 ≤ k → k < 32 → 0 ≤ (prZ (u 0) (zp u row) (zd u row) (fun j => u (8 + j)) (u 7) (u 1) (u 6) c).1 k ∧ (prZ (u 0) (zp u row) (zd u row) (fun j => u (8 + j)) (u 7) (u 1) (u 6) c).1 k ≤ 7 := hr.1
      have hrL : 0 ≤ (prZ (u 0) (zp u row) (zd u row) (fun j => u (8 + j)) (u 7) (u 1) (u 6) c).2.2 ∧ (prZ (u 0) (zp u row) (zd u row) (fun j => u (8 + j)) (u 7) (u 1) (u 6) c).2.2 ≤ 9999 := ⟨hr.2.1, hr.2.2.1⟩
      have hrF : 0 ≤ (prZ (u 0) (zp u row) (zd u row) (fun j => u (8 + j)) (u 7) (u 1) (u 6) c).2.1 ∧ (prZ (u 0) (zp u row) (zd u row) (fun j => u (8 + j)) (u 7) (u 1) (u 6) c).2.1 ≤ c := ⟨hr.2.2.2, by have h9 : (prZ (u 0) (zp u row) (zd u row) (fun j => u (8 + j)) (u 7) (u 1) (u 6) c).2.1 ≤ ((c.toNat : Nat) : Int) := hf0; omega⟩
      have hU1 : UK u1 := (UK_pg hU hrow hrD (show 0 ≤ c ∧ c ≤ 32 from hc) hrL).c hg
      have hlo : ∀ j : Int, 0 ≤ j → j < 288 → ¬ j = 6 → u1 j = u j := fun j a b e => by rw [hg j a (by omega)]; unfold pgF; rw [if_neg e, if_neg (by omega), if_neg (by omega)]
      have e0 := hlo 0 (by omega) (by omega) (by omega)
      have e7 := hlo 7 (by omega) (by omega) (by omega)
      have e1 := hlo 1 (by omega) (by omega) (by omega)
      have e6 : u1 6 = (prZ (u 0) (zp u row) (zd u row) (fun j => u (8 + j)) (u 7) (u 1) (u 6) c).2.2 := by rw [hg 6 (by omega) (by omega)]; unfold pgF; rw [if_pos rfl]
      have hzpe : zb (u1 0) (zp u1 row) c = zb (u 0) (zp u row) c := by rw [e0]; exact zb_congr (hlo (32 + (row * 32 + c)) (by omega) (by omega) (by omega))
      have hps := prZ_s (u 0) (zp u row) (zd u row) (fun j => u (8 + j)) (u 7) (u 1) (u 6) (show 0 ≤ c from hc.1)
      refine y_aload_n C 0 dX6_prints_10 rfl ?_
      refine y_iload_n C 1 dX6_prints_11 rfl ?_
      refine y_iload_n C 3 dX6_prints_12 rfl ?_
      refine y_pcall C (m_X6_boundTo (l := l) (D := D) (cA := cA) (cB := cB) (y := y) (ms := ms) (ma := ma) (mp := mp) (mk := mk) (md := md) (me := me) (mo := mo) (np := np) (ik := ik) (ml := ml) (sp := sp) (wr := wr) (tp := tp) (bt := bt) (lf := lf) (rg := rg) (dp := dp) (u := u1) (row := row) (c := c) (by first | assumption | omega | exact ⟨by omega, by omega⟩) (by first | assumption | omega | exact ⟨by omega, by omega⟩) (by first | assumption | omega | exact ⟨by omega, by omega⟩)) lk_X6_46 [0, 1] [] [0, 1] ⟨rfl, rfl, by decide, by decide, by decide⟩ ⟨rfl, by decide⟩ rfl rfl dX6_prints_13 rfl rfl ⟨by exact Nat.le_of_ble_eq_true rfl, by exact Nat.le_of_ble_eq_true rfl, rfl, rfl, by exact Nat.le_of_ble_eq_true rfl, by exact Nat.le_of_ble_eq_true rfl, by exact Nat.le_of_ble_eq_true rfl⟩ (fun r_3 h_2 => ?_)
      have hb := h_2
      rw [hzpe] at hb
      refine y_istore C [(4, .int (zI r_3)), (0, .ref y), (1, .int (zI row)), (2, .int (zI fr)), (3, .int (zI c))] dX6_prints_16 (by decide) rfl ?_
      refine y_iload C 0 dX6_prints_18 rfl ?_
      refine y_iconst C dX6_prints_20 ?_
      refine y_icmp_eq C 36 dX6_prints_21 (by decide) ⟨⟨by omega, by omega⟩, ⟨by omega, by omega⟩⟩ (fun c_4 => ?_) (fun c_4 => ?_)
      · refine y_aload_n C 1 dX6_prints_36 rfl ?_
        refine y_get C fg_X6_7 0 dX6_prints_37 rfl rfl ?_
        refine y_bipush C dX6_prints_40 (by decide +kernel) ?_
        refine y_iald C 1 0 dX6_prints_42 rfl rfl ⟨by omega, by omega, by omega⟩ ?_
        refine y_if_le C 71 dX6_prints_43 (by decide) ⟨by omega, by omega⟩ (fun c_5 => ?_) (fun c_5 => ?_)
        · refine y_aload_n C 1 dX6_prints_71 rfl ?_
          refine y_get C fg_X6_7 0 dX6_prints_72 rfl rfl ?_
          refine y_bipush C dX6_prints_75 (by decide +kernel) ?_
          refine y_sipush C dX6_prints_77 (by decide +kernel) ?_
          refine y_aload_n C 1 dX6_prints_80 rfl ?_
          refine y_get C fg_X6_7 0 dX6_prints_81 rfl rfl ?_
          refine y_bipush C dX6_prints_84 (by decide +kernel) ?_
          refine y_iald C 1 0 dX6_prints_86 rfl rfl ⟨by omega, by omega, by omega⟩ ?_
          refine y_imul C dX6_prints_87 ?_
          refine y_sipush C dX6_prints_88 (by decide +kernel) ?_
          refine y_iadd C dX6_prints_91 ?_
          refine y_sipush C dX6_prints_92 (by decide +kernel) ?_
          refine y_irem C dX6_prints_95 ⟨by omega, by omega, by omega, by omega⟩ ?_
          refine y_iast C 1 0 [cO y 6 [.ref ms, .ref ma, .ref mp, .int (zI np), .ref mk, .int (zI ik), .ref md, .int (zI ml), .ref me, .ref mo, .int (zI sp), .int (zI wr), .int (zI tp), .int (zI bt), .int (zI lf), .int (zI rg), .int (zI dp)], cI cA ms 800 (zU u1 6 (((421 * (u1 6)) + 1663) % 10000))] dX6_prints_96 rfl rfl ⟨by omega, by omega, by omega⟩ rfl ?_
          refine y_aload_n C 1 dX6_prints_97 rfl ?_
          refine y_get C fg_X6_7 0 dX6_prints_98 rfl rfl ?_
          refine y_bipush C dX6_prints_101 (by decide +kernel) ?_
          refine y_iald C 1 0 dX6_prints_103 rfl rfl ⟨by omega, by omega, by omega⟩ ?_
          refine y_top (show ((zU u1 6 (((421 * (u1 6)) + 1663) % 10000)) 6) = ((421 * u1 6 + 1663) % 10000) from zU_s _ _ _) ?_
          refine y_aload_n C 1 dX6_prints_104 rfl ?_
          refine y_get C fg_X6_7 0 dX6_prints_105 rfl rfl ?_
          refine y_iconst C dX6_prints_108 ?_
          refine y_iald C 1 0 dX6_prints_109 rfl rfl ⟨by omega, by omega, by omega⟩ ?_
          refine y_top (show ((zU u1 6 (((421 * (u1 6)) + 1663) % 10000)) 1) = (u1 1) from zU_n (by decide)) ?_
          refine y_irem C dX6_prints_110 ⟨by omega, by omega, by omega, by omega⟩ ?_
          have hst2 : prZ (u 0) (zp u row) (zd u row) (fun j => u (8 + j)) (u 7) (u 1) (u 6) (c + 1) = (zU (prZ (u 0) (zp u row) (zd u row) (fun j => u (8 + j)) (u 7) (u 1) (u 6) c).1 c (((421 * u1 6 + 1663) % 10000) % (u1 1)), (prZ (u 0) (zp u row) (zd u row) (fun j => u (8 + j)) (u 7) (u 1) (u 6) c).2.1, (421 * (prZ (u 0) (zp u row) (zd u row) (fun j => u (8 + j)) (u 7) (u 1) (u 6) c).2.2 + 1663) % 10000) := by rw [hps, if_neg (by omega), if_neg (by omega), e6, e1]
          refine y_istore C [(5, .int (zI (((421 * u1 6 + 1663) % 10000) % (u1 1)))), (4, .int (zI r_3)), (0, .ref y), (1, .int (zI row)), (2, .int (zI fr)), (3, .int (zI c))] dX6_prints_111 (by decide) rfl ?_
          refine y_aload_n C 2 dX6_prints_113 rfl ?_
          refine y_get C fg_X6_7 0 dX6_prints_114 rfl rfl ?_
          refine y_sipush C dX6_prints_117 (by decide +kernel) ?_
          refine y_iload_n C 3 dX6_prints_120 rfl ?_
          refine y_iload_n C 5 dX6_prints_121 rfl ?_
          refine y_pcalls C (m_X6_place (l := l) (D := D) (cA := cA) (cB := cB) (rr := row) (cc := c) ) lk_X6_35 [] [0, 1] [0, 1] ⟨rfl, rfl, by decide, by decide, by decide⟩ ⟨rfl, by decide⟩ dX6_prints_122 rfl rfl ⟨by exact Nat.le_of_ble_eq_true rfl, by exact Nat.le_of_ble_eq_true rfl, rfl, rfl, by exact Nat.le_of_ble_eq_true rfl, by exact Nat.le_of_ble_eq_true rfl, by exact Nat.le_of_ble_eq_true rfl⟩ (fun r_7 h_6 => ?_)
          refine y_iadd C dX6_prints_125 ?_
          refine y_top (show (288 + r_7) = (288 + (row * 32 + c)) from by omega) ?_
          refine y_iload C 0 dX6_prints_126 rfl ?_
          refine y_iast C 1 0 [cO y 6 [.ref ms, .ref ma, .ref mp, .int (zI np), .ref mk, .int (zI ik), .ref md, .int (zI ml), .ref me, .ref mo, .int (zI sp), .int (zI wr), .int (zI tp), .int (zI bt), .int (zI lf), .int (zI rg), .int (zI dp)], cI cA ms 800 (zU (zU u1 6 (((421 * (u1 6)) + 1663) % 10000)) (288 + (row * 32 + c)) (((421 * u1 6 + 1663) % 10000) % (u1 1)))] dX6_prints_128 rfl rfl ⟨by omega, by omega, by omega⟩ rfl ?_
          refine y_aload_n C 2 dX6_prints_129 rfl ?_
          refine y_get C fg_X6_7 0 dX6_prints_130 rfl rfl ?_
          refine y_sipush C dX6_prints_133 (by decide +kernel) ?_
          refine y_iload_n C 3 dX6_prints_136 rfl ?_
          refine y_iload_n C 5 dX6_prints_137 rfl ?_
          refine y_pcalls C (m_X6_place (l := l) (D := D) (cA := cA) (cB := cB) (rr := row) (cc := c) ) lk_X6_35 [] [0, 1] [0, 1] ⟨rfl, rfl, by decide, by decide, by decide⟩ ⟨rfl, by decide⟩ dX6_prints_138 rfl rfl ⟨by exact Nat.le_of_ble_eq_true rfl, by exact Nat.le_of_ble_eq_true rfl, rfl, rfl, by exact Nat.le_of_ble_eq_true rfl, by exact Nat.le_of_ble_eq_true rfl, by exact Nat.le_of_ble_eq_true rfl⟩ (fun r_9 h_8 => ?_)
          refine y_iadd C dX6_prints_141 ?_
          refine y_top (show (544 + r_9) = (544 + (row * 32 + c)) from by omega) ?_
          refine y_iconst C dX6_prints_142 ?_
          refine y_iast C 1 0 [cO y 6 [.ref ms, .ref ma, .ref mp, .int (zI np), .ref mk, .int (zI ik), .ref md, .int (zI ml), .ref me, .ref mo, .int (zI sp), .int (zI wr), .int (zI tp), .int (zI bt), .int (zI lf), .int (zI rg), .int (zI dp)], cI cA ms 800 (zU (zU (zU u1 6 (((421 * (u1 6)) + 1663) % 10000)) (288 + (row * 32 + c)) (((421 * u1 6 + 1663) % 10000) % (u1 1))) (544 + (row * 32 + c)) 0)] dX6_prints_143 rfl rfl ⟨by omega, by omega, by omega⟩ rfl ?_
          refine y_iinc C 5 [(3, .int (zI (c + 1))), (5, .int (zI (((421 * u1 6 + 1663) % 10000) % (u1 1)))), (4, .int (zI r_3)), (0, .ref y), (1, .int (zI row)), (2, .int (zI fr))] dX6_prints_144 rfl (by decide) rfl ?_
          refine y_goto C 4 dX6_prints_147 (by decide) ?_
          refine y_lsub C [3, 4, 5, 0] (lv' := [(0, .ref y), (1, .int (zI row)), (2, .int (zI fr)), (3, .int (zI (c + 1)))]) rfl ?_
          exact ih4 fr (c + 1) (zU (zU (zU u1 6 (((421 * (u1 6)) + 1663) % 10000)) (288 + (row * 32 + c)) (((421 * u1 6 + 1663) % 10000) % (u1 1))) (544 + (row * 32 + c)) 0) (by omega) (by rw [hst2]; first | exact hfr | (show fr + 1 = (prZ (u 0) (zp u row) (zd u row) (fun j => u (8 + j)) (u 7) (u 1) (u 6) c).2.1 + 1; rw [hfr])) (by rw [hst2]; exact pg_step hrow ⟨by omega, by omega⟩ hg (fun j a b => by first | exact (Classical.em (j = 6)).elim (fun q => by subst q; rw [if_pos rfl]; exact e6) (fun q => by rw [if_neg q]) | exact (Classical.em (j = 6)).elim (fun q => by subst q; rw [if_pos rfl, zU_s]; exact congrArg (fun z : Int => (421 * z + 1663) % 10000) e6) (fun q => by rw [if_neg q, zU_n q]))) (by omega)
        · refine y_aload_n C 1 dX6_prints_46 rfl ?_
          refine y_get C fg_X6_7 0 dX6_prints_47 rfl rfl ?_
          refine y_bipush C dX6_prints_50 (by decide +kernel) ?_
          refine y_iload_n C 3 dX6_prints_52 rfl ?_
          refine y_aload_n C 1 dX6_prints_53 rfl ?_
          refine y_get C fg_X6_7 0 dX6_prints_54 rfl rfl ?_
          refine y_bipush C dX6_prints_57 (by decide +kernel) ?_
          refine y_iald C 1 0 dX6_prints_59 rfl rfl ⟨by omega, by omega, by omega⟩ ?_
          refine y_irem C dX6_prints_60 ⟨by omega, by omega, by omega, by omega⟩ ?_
          have hmd := zmod_r fr (b := u1 7) (by omega)
          refine y_iadd C dX6_prints_61 ?_
          refine y_iald C 1 0 dX6_prints_62 rfl rfl ⟨by omega, by omega, by omega⟩ ?_
          have hsx : (u1 (8 + (fr % (u1 7)))) = u (8 + (prZ (u 0) (zp u row) (zd u row) (fun j => u (8 + j)) (u 7) (u 1) (u 6) c).2.1 % u 7) := by rw [← hfr, ← e7]; exact hlo _ (by omega) (by omega) (by omega)
          have hst2 : prZ (u 0) (zp u row) (zd u row) (fun j => u (8 + j)) (u 7) (u 1) (u 6) (c + 1) = (zU (prZ (u 0) (zp u row) (zd u row) (fun j => u (8 + j)) (u 7) (u 1) (u 6) c).1 c (u1 (8 + (fr % (u1 7)))), (prZ (u 0) (zp u row) (zd u row) (fun j => u (8 + j)) (u 7) (u 1) (u 6) c).2.1 + 1, (prZ (u 0) (zp u row) (zd u row) (fun j => u (8 + j)) (u 7) (u 1) (u 6) c).2.2) := by rw [hps, if_neg (by omega), if_pos (by omega), hsx]
          refine y_istore C [(5, .int (zI (u1 (8 + (fr % (u1 7)))))), (4, .int (zI r_3)), (0, .ref y), (1, .int (zI row)), (2, .int (zI fr)), (3, .int (zI c))] dX6_prints_63 (by decide) rfl ?_
          refine y_iinc C 4 [(2, .int (zI (fr + 1))), (5, .int (zI (u1 (8 + (fr % (u1 7)))))), (4, .int (zI r_3)), (0, .ref y), (1, .int (zI row)), (3, .int (zI c))] dX6_prints_65 rfl (by decide) rfl ?_
          refine y_goto C 113 dX6_prints_68 (by decide) ?_
          refine y_aload_n C 3 dX6_prints_113 rfl ?_
          refine y_get C fg_X6_7 0 dX6_prints_114 rfl rfl ?_
          refine y_sipush C dX6_prints_117 (by decide +kernel) ?_
          refine y_iload_n C 4 dX6_prints_120 rfl ?_
          refine y_iload_n C 5 dX6_prints_121 rfl ?_
          refine y_pcalls C (m_X6_place (l := l) (D := D) (cA := cA) (cB := cB) (rr := row) (cc := c) ) lk_X6_35 [] [0, 1] [0, 1] ⟨rfl, rfl, by decide, by decide, by decide⟩ ⟨rfl, by decide⟩ dX6_prints_122 rfl rfl ⟨by exact Nat.le_of_ble_eq_true rfl, by exact Nat.le_of_ble_eq_true rfl, rfl, rfl, by exact Nat.le_of_ble_eq_true rfl, by exact Nat.le_of_ble_eq_true rfl, by exact Nat.le_of_ble_eq_true rfl⟩ (fun r_11 h_10 => ?_)
          refine y_iadd C dX6_prints_125 ?_
          refine y_top (show (288 + r_11) = (288 + (row * 32 + c)) from by omega) ?_
          refine y_iload C 1 dX6_prints_126 rfl ?_
          refine y_iast C 1 0 [cO y 6 [.ref ms, .ref ma, .ref mp, .int (zI np), .ref mk, .int (zI ik), .ref md, .int (zI ml), .ref me, .ref mo, .int (zI sp), .int (zI wr), .int (zI tp), .int (zI bt), .int (zI lf), .int (zI rg), .int (zI dp)], cI cA ms 800 (zU u1 (288 + (row * 32 + c)) (u1 (8 + (fr % (u1 7)))))] dX6_prints_128 rfl rfl ⟨by omega, by omega, by omega⟩ rfl ?_
          refine y_aload_n C 3 dX6_prints_129 rfl ?_
          refine y_get C fg_X6_7 0 dX6_prints_130 rfl rfl ?_
          refine y_sipush C dX6_prints_133 (by decide +kernel) ?_
          refine y_iload_n C 4 dX6_prints_136 rfl ?_
          refine y_iload_n C 5 dX6_prints_137 rfl ?_
          refine y_pcalls C (m_X6_place (l := l) (D := D) (cA := cA) (cB := cB) (rr := row) (cc := c) ) lk_X6_35 [] [0, 1] [0, 1] ⟨rfl, rfl, by decide, by decide, by decide⟩ ⟨rfl, by decide⟩ dX6_prints_138 rfl rfl ⟨by exact Nat.le_of_ble_eq_true rfl, by exact Nat.le_of_ble_eq_true rfl, rfl, rfl, by exact Nat.le_of_ble_eq_true rfl, by exact Nat.le_of_ble_eq_true rfl, by exact Nat.le_of_ble_eq_true rfl⟩ (fun r_13 h_12 => ?_)
          refine y_iadd C dX6_prints_141 ?_
          refine y_top (show (544 + r_13) = (544 + (row * 32 + c)) from by omega) ?_
          refine y_iconst C dX6_prints_142 ?_
          refine y_iast C 1 0 [cO y 6 [.ref ms, .ref ma, .ref mp, .int (zI np), .ref mk, .int (zI ik), .ref md, .int (zI ml), .ref me, .ref mo, .int (zI sp), .int (zI wr), .int (zI tp), .int (zI bt), .int (zI lf), .int (zI rg), .int (zI dp)], cI cA ms 800 (zU (zU u1 (288 + (row * 32 + c)) (u1 (8 + (fr % (u1 7))))) (544 + (row * 32 + c)) 0)] dX6_prints_143 rfl rfl ⟨by omega, by omega, by omega⟩ rfl ?_
          refine y_iinc C 5 [(3, .int (zI (c + 1))), (2, .int (zI (fr + 1))), (5, .int (zI (u1 (8 + (fr % (u1 7)))))), (4, .int (zI r_3)), (0, .ref y), (1, .int (zI row))] dX6_prints_144 rfl (by decide) rfl ?_
          refine y_goto C 4 dX6_prints_147 (by decide) ?_
          refine y_lsub C [4, 5, 1, 0] (lv' := [(0, .ref y), (1, .int (zI row)), (2, .int (zI (fr + 1))), (3, .int (zI (c + 1)))]) rfl ?_
          exact ih4 (fr + 1) (c + 1) (zU (zU u1 (288 + (row * 32 + c)) (u1 (8 + (fr % (u1 7))))) (544 + (row * 32 + c)) 0) (by omega) (by rw [hst2]; first | exact hfr | (show fr + 1 = (prZ (u 0) (zp u row) (zd u row) (fun j => u (8 + j)) (u 7) (u 1) (u 6) c).2.1 + 1; rw [hfr])) (by rw [hst2]; exact pg_step hrow ⟨by omega, by omega⟩ hg (fun j a b => by first | exact (Classical.em (j = 6)).elim (fun q => by subst q; rw [if_pos rfl]; exact e6) (fun q => by rw [if_neg q]) | exact (Classical.em (j = 6)).elim (fun q => by subst q; rw [if_pos rfl, zU_s]; exact congrArg (fun z : Int => (421 * z + 1663) % 10000) e6) (fun q => by rw [if_neg q, zU_n q]))) (by omega)
      · refine y_aload_n C 1 dX6_prints_24 rfl ?_
        refine y_iload_n C 2 dX6_prints_25 rfl ?_
        refine y_iload C 0 dX6_prints_26 rfl ?_
        refine y_pcall C (m_X6_dotOf (l := l) (D := D) (cA := cA) (cB := cB) (y := y) (ms := ms) (ma := ma) (mp := mp) (mk := mk) (md := md) (me := me) (mo := mo) (np := np) (ik := ik) (ml := ml) (sp := sp) (wr := wr) (tp := tp) (bt := bt) (lf := lf) (rg := rg) (dp := dp) (u := u1) (row := row) (c := r_3) (by first | assumption | omega | exact ⟨by omega, by omega⟩) (by first | assumption | omega | exact ⟨by omega, by omega⟩) (by first | assumption | omega | exact ⟨by omega, by omega⟩)) lk_X6_56 [0, 1] [] [0, 1] ⟨rfl, rfl, by decide, by decide, by decide⟩ ⟨rfl, by decide⟩ rfl rfl dX6_prints_28 rfl rfl ⟨by exact Nat.le_of_ble_eq_true rfl, by exact Nat.le_of_ble_eq_true rfl, rfl, rfl, by exact Nat.le_of_ble_eq_true rfl, by exact Nat.le_of_ble_eq_true rfl, by exact Nat.le_of_ble_eq_true rfl⟩ (fun r_15 h_14 => ?_)
        have hdo := (h_14).1
        have hdo2 : r_15 = (prZ (u 0) (zp u row) (zd u row) (fun j => u (8 + j)) (u 7) (u 1) (u 6) c).1 r_3 := by rw [hdo]; show u1 (288 + (row * 32 + r_3)) = _; rw [hg _ (by omega) (by omega)]; unfold pgF; rw [if_neg (by omega), if_pos (by omega), show 288 + (row * 32 + r_3) - (288 + row * 32) = r_3 by omega]
        have hst2 : prZ (u 0) (zp u row) (zd u row) (fun j => u (8 + j)) (u 7) (u 1) (u 6) (c + 1) = (zU (prZ (u 0) (zp u row) (zd u row) (fun j => u (8 + j)) (u 7) (u 1) (u 6) c).1 c r_15, (prZ (u 0) (zp u row) (zd u row) (fun j => u (8 + j)) (u 7) (u 1) (u 6) c).2) := by rw [hps, if_pos (by omega), hdo2]; rcases hb with z | z; rw [z.1]; exfalso; omega
        refine y_istore C [(5, .int (zI r_15)), (4, .int (zI r_3)), (0, .ref y), (1, .int (zI row)), (2, .int (zI fr)), (3, .int (zI c))] dX6_prints_31 (by decide) rfl ?_
        refine y_goto C 113 dX6_prints_33 (by decide) ?_
        refine y_aload_n C 2 dX6_prints_113 rfl ?_
        refine y_get C fg_X6_7 0 dX6_prints_114 rfl rfl ?_
        refine y_sipush C dX6_prints_117 (by decide +kernel) ?_
        refine y_iload_n C 3 dX6_prints_120 rfl ?_
        refine y_iload_n C 5 dX6_prints_121 rfl ?_
        refine y_pcalls C (m_X6_place (l := l) (D := D) (cA := cA) (cB := cB) (rr := row) (cc := c) ) lk_X6_35 [] [0, 1] [0, 1] ⟨rfl, rfl, by decide, by decide, by decide⟩ ⟨rfl, by decide⟩ dX6_prints_122 rfl rfl ⟨by exact Nat.le_of_ble_eq_true rfl, by exact Nat.le_of_ble_eq_true rfl, rfl, rfl, by exact Nat.le_of_ble_eq_true rfl, by exact Nat.le_of_ble_eq_true rfl, by exact Nat.le_of_ble_eq_true rfl⟩ (fun r_17 h_16 => ?_)
        refine y_iadd C dX6_prints_125 ?_
        refine y_top (show (288 + r_17) = (288 + (row * 32 + c)) from by omega) ?_
        refine y_iload C 0 dX6_prints_126 rfl ?_
        refine y_iast C 1 0 [cO y 6 [.ref ms, .ref ma, .ref mp, .int (zI np), .ref mk, .int (zI ik), .ref md, .int (zI ml), .ref me, .ref mo, .int (zI sp), .int (zI wr), .int (zI tp), .int (zI bt), .int (zI lf), .int (zI rg), .int (zI dp)], cI cA ms 800 (zU u1 (288 + (row * 32 + c)) r_15)] dX6_prints_128 rfl rfl ⟨by omega, by omega, by omega⟩ rfl ?_
        refine y_aload_n C 2 dX6_prints_129 rfl ?_
        refine y_get C fg_X6_7 0 dX6_prints_130 rfl rfl ?_
        refine y_sipush C dX6_prints_133 (by decide +kernel) ?_
        refine y_iload_n C 3 dX6_prints_136 rfl ?_
        refine y_iload_n C 5 dX6_prints_137 rfl ?_
        refine y_pcalls C (m_X6_place (l := l) (D := D) (cA := cA) (cB := cB) (rr := row) (cc := c) ) lk_X6_35 [] [0, 1] [0, 1] ⟨rfl, rfl, by decide, by decide, by decide⟩ ⟨rfl, by decide⟩ dX6_prints_138 rfl rfl ⟨by exact Nat.le_of_ble_eq_true rfl, by exact Nat.le_of_ble_eq_true rfl, rfl, rfl, by exact Nat.le_of_ble_eq_true rfl, by exact Nat.le_of_ble_eq_true rfl, by exact Nat.le_of_ble_eq_true rfl⟩ (fun r_19 h_18 => ?_)
        refine y_iadd C dX6_prints_141 ?_
        refine y_top (show (544 + r_19) = (544 + (row * 32 + c)) from by omega) ?_
        refine y_iconst C dX6_prints_142 ?_
        refine y_iast C 1 0 [cO y 6 [.ref ms, .ref ma, .ref mp, .int (zI np), .ref mk, .int (zI ik), .ref md, .int (zI ml), .ref me, .ref mo, .int (zI sp), .int (zI wr), .int (zI tp), .int (zI bt), .int (zI lf), .int (zI rg), .int (zI dp)], cI cA ms 800 (zU (zU u1 (288 + (row * 32 + c)) r_15) (544 + (row * 32 + c)) 0)] dX6_prints_143 rfl rfl ⟨by omega, by omega, by omega⟩ rfl ?_
        refine y_iinc C 5 [(3, .int (zI (c + 1))), (5, .int (zI r_15)), (4, .int (zI r_3)), (0, .ref y), (1, .int (zI row)), (2, .int (zI fr))] dX6_prints_144 rfl (by decide) rfl ?_
        refine y_goto C 4 dX6_prints_147 (by decide) ?_
        refine y_lsub C [3, 4, 5, 0] (lv' := [(0, .ref y), (1, .int (zI row)), (2, .int (zI fr)), (3, .int (zI (c + 1)))]) rfl ?_
        exact ih4 fr (c + 1) (zU (zU u1 (288 + (row * 32 + c)) r_15) (544 + (row * 32 + c)) 0) (by omega) (by rw [hst2]; first | exact hfr | (show fr + 1 = (prZ (u 0) (zp u row) (zd u row) (fun j => u (8 + j)) (u 7) (u 1) (u 6) c).2.1 + 1; rw [hfr])) (by rw [hst2]; exact pg_step hrow ⟨by omega, by omega⟩ hg (fun j a b => by first | exact (Classical.em (j = 6)).elim (fun q => by subst q; rw [if_pos rfl]; exact e6) (fun q => by rw [if_neg q]) | exact (Classical.em (j = 6)).elim (fun q => by subst q; rw [if_pos rfl, zU_s]; exact congrArg (fun z : Int => (421 * z + 1663) % 10000) e6) (fun q => by rw [if_neg q, zU_n q]))) (by omega)
