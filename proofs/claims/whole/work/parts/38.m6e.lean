set_option maxHeartbeats 4000000 in
set_option maxRecDepth 100000 in
theorem m_X6_isOne {l : Launch} {D : va_G} {cA cB : ClassId} {y ms ma mp mk md me mo : Nat} {np ik ml sp wr tp bt lf rg dp : Int} {u sn : Int → Int} {row c wh : Int} (hrow : 0 ≤ row ∧ row < 8) (hc : 0 ≤ c ∧ c < 32) (hwh : 0 ≤ wh ∧ wh ≤ 7) (hU : UK u) (hs : ∀ k : Int, 0 ≤ k → k < 32 → sn k = sm1 (seeR u row k)) : MI l yX6_isOne cX6_isOne 5 .boolean { frames := 4, cells := 0, slots := 0, locals := 90 } D (zT cA cB) [.ref y, .int (zI row), .int (zI c), .int (zI wh)] [cO y 6 [.ref ms, .ref ma, .ref mp, .int (zI np), .ref mk, .int (zI ik), .ref md, .int (zI ml), .ref me, .ref mo, .int (zI sp), .int (zI wr), .int (zI tp), .int (zI bt), .int (zI lf), .int (zI rg), .int (zI dp)], cI cA ms 800 u, cI cA me 32 sn] (fun r w => w = [cO y 6 [.ref ms, .ref ma, .ref mp, .int (zI np), .ref mk, .int (zI ik), .ref md, .int (zI ml), .ref me, .ref mo, .int (zI sp), .int (zI wr), .int (zI tp), .int (zI bt), .int (zI lf), .int (zI rg), .int (zI dp)], cI cA ms 800 u, cI cA me 32 sn] ∧ ((r = 1 ∧ (kindP (u 0) (zp u row) (zd u row) (zk u row) (seeR u row) (bndR u row) wh c)) ∨ (r = 0 ∧ ¬ (kindP (u 0) (zp u row) (zd u row) (zk u row) (seeR u row) (bndR u row) wh c)))) := by
  refine MI.of RX6 ⟨rfl, by decide +kernel⟩ (Or.inr rfl) (Nat.le_of_ble_eq_true rfl) (fun _ r w h => by rcases h.2 with h | h; exact Or.inr h.1; exact Or.inl h.1) ?_
  intro K C hret
  change K 0 0 _ [(0, .ref y), (1, .int (zI row)), (2, .int (zI c)), (3, .int (zI wh))] 0 []
  have hus := hU.s
  have hup := hU.p
  have hud := hU.d
  have huk := hU.k
  have hul := hU.len
  have hut := hU.lot
  have hpu := hU.zpu hrow
  have hsn : ∀ k : Int, 0 ≤ k → k < 32 → -1 ≤ sn k ∧ sn k ≤ 4 := fun k a b => by rw [hs k a b]; exact sm1_r (seeR_r u row k)
  have hsc := hs c hc.1 hc.2
  have hso := sm1_or (seeR_r u row c)
  have hpr := hU.rp hrow hc.1 hc.2
  have hzk := (zk_0 hU hrow hc).1
  have hkk := huk (row * 32 + c) (by omega) (by omega)
  refine y_aload_n C 0 dX6_isOne_0 rfl ?_
  refine y_iload_n C 1 dX6_isOne_1 rfl ?_
  refine y_iload_n C 2 dX6_isOne_2 rfl ?_
  refine y_pcall C (m_X6_boundTo (l := l) (D := D) (cA := cA) (cB := cB) (y := y) (ms := ms) (ma := ma) (mp := mp) (mk := mk) (md := md) (me := me) (mo := mo) (np := np) (ik := ik) (ml := ml) (sp := sp) (wr := wr) (tp := tp) (bt := bt) (lf := lf) (rg := rg) (dp := dp) (u := u) (row := row) (c := c) (by first | assumption | omega | exact ⟨by omega, by omega⟩) (by first | assumption | omega | exact ⟨by omega, by omega⟩) (by first | assumption | omega | exact ⟨by omega, by omega⟩)) lk_X6_46 [0, 1] [2] [1, 2, 0] ⟨rfl, rfl, by decide, by decide, by decide⟩ ⟨rfl, by decide⟩ rfl rfl dX6_isOne_3 rfl rfl ⟨by exact Nat.le_of_ble_eq_true rfl, by exact Nat.le_of_ble_eq_true rfl, rfl, rfl, by exact Nat.le_of_ble_eq_true rfl, by exact Nat.le_of_ble_eq_true rfl, by exact Nat.le_of_ble_eq_true rfl⟩ (fun r_2 h_1 => ?_)
  have hb := h_1
  refine y_istore C [(4, .int (zI r_2)), (0, .ref y), (1, .int (zI row)), (2, .int (zI c)), (3, .int (zI wh))] dX6_isOne_6 (by decide) rfl ?_
  refine y_iload_n C 4 dX6_isOne_8 rfl ?_
  rcases (show wh = 0 ∨ wh = 1 ∨ wh = 2 ∨ wh = 3 ∨ wh = 4 ∨ wh = 5 ∨ wh = 6 ∨ (wh < 0 ∨ 6 < wh) from by omega) with s_3 | s_3 | s_3 | s_3 | s_3 | s_3 | s_3 | s_3
  · refine y_tin C 52 0 dX6_isOne_9 ⟨by omega, by omega⟩ ⟨by omega, by omega⟩ (by omega) rfl (by decide) ?_
    refine y_iload C 0 dX6_isOne_52 rfl ?_
    refine y_iconst C dX6_isOne_54 ?_
    refine y_icmp_ne C 62 dX6_isOne_55 (by decide) ⟨⟨by omega, by omega⟩, ⟨by omega, by omega⟩⟩ (fun c_4 => ?_) (fun c_4 => ?_)
    · refine y_iconst C dX6_isOne_62 ?_
      refine hret _ _ _ _ dX6_isOne_63 ⟨rfl, ?_⟩
      show ((0 = 1 ∧ (kindP (u 0) (zp u row) (zd u row) (zk u row) (seeR u row) (bndR u row) wh c)) ∨ (0 = 0 ∧ ¬ (kindP (u 0) (zp u row) (zd u row) (zk u row) (seeR u row) (bndR u row) wh c)))
      unfold kindP; omega
    · refine y_iconst C dX6_isOne_58 ?_
      refine y_goto C 63 dX6_isOne_59 (by decide) ?_
      refine hret _ _ _ _ dX6_isOne_63 ⟨rfl, ?_⟩
      show ((1 = 1 ∧ (kindP (u 0) (zp u row) (zd u row) (zk u row) (seeR u row) (bndR u row) wh c)) ∨ (1 = 0 ∧ ¬ (kindP (u 0) (zp u row) (zd u row) (zk u row) (seeR u row) (bndR u row) wh c)))
      unfold kindP; omega
  · refine y_tin C 64 1 dX6_isOne_9 ⟨by omega, by omega⟩ ⟨by omega, by omega⟩ (by omega) rfl (by decide) ?_
    refine y_aload_n C 1 dX6_isOne_64 rfl ?_
    refine y_iload_n C 2 dX6_isOne_65 rfl ?_
    refine y_iload_n C 3 dX6_isOne_66 rfl ?_
    refine y_pcall C (m_X6_manyBoundTo (l := l) (D := D) (cA := cA) (cB := cB) (y := y) (ms := ms) (ma := ma) (mp := mp) (mk := mk) (md := md) (me := me) (mo := mo) (np := np) (ik := ik) (ml := ml) (sp := sp) (wr := wr) (tp := tp) (bt := bt) (lf := lf) (rg := rg) (dp := dp) (u := u) (row := row) (c := c) (by first | assumption | omega | exact ⟨by omega, by omega⟩) (by first | assumption | omega | exact ⟨by omega, by omega⟩) (by first | assumption | omega | exact ⟨by omega, by omega⟩)) lk_X6_155 [0, 1] [2] [1, 2, 0] ⟨rfl, rfl, by decide, by decide, by decide⟩ ⟨rfl, by decide⟩ rfl rfl dX6_isOne_67 rfl rfl ⟨by exact Nat.le_of_ble_eq_true rfl, by exact Nat.le_of_ble_eq_true rfl, rfl, rfl, by exact Nat.le_of_ble_eq_true rfl, by exact Nat.le_of_ble_eq_true rfl, by exact Nat.le_of_ble_eq_true rfl⟩ (fun r_6 h_5 => ?_)
    have hm := (h_5).1
    refine y_iconst C dX6_isOne_70 ?_
    refine y_icmp_le C 78 dX6_isOne_71 (by decide) ⟨⟨by omega, by omega⟩, ⟨by omega, by omega⟩⟩ (fun c_7 => ?_) (fun c_7 => ?_)
    · refine y_iconst C dX6_isOne_78 ?_
      refine hret _ _ _ _ dX6_isOne_79 ⟨rfl, ?_⟩
      show ((0 = 1 ∧ (kindP (u 0) (zp u row) (zd u row) (zk u row) (seeR u row) (bndR u row) wh c)) ∨ (0 = 0 ∧ ¬ (kindP (u 0) (zp u row) (zd u row) (zk u row) (seeR u row) (bndR u row) wh c)))
      unfold kindP; omega
    · refine y_iconst C dX6_isOne_74 ?_
      refine y_goto C 79 dX6_isOne_75 (by decide) ?_
      refine hret _ _ _ _ dX6_isOne_79 ⟨rfl, ?_⟩
      show ((1 = 1 ∧ (kindP (u 0) (zp u row) (zd u row) (zk u row) (seeR u row) (bndR u row) wh c)) ∨ (1 = 0 ∧ ¬ (kindP (u 0) (zp u row) (zd u row) (zk u row) (seeR u row) (bndR u row) wh c)))
      unfold kindP; omega
  · refine y_tin C 80 2 dX6_isOne_9 ⟨by omega, by omega⟩ ⟨by omega, by omega⟩ (by omega) rfl (by decide) ?_
    refine y_aload_n C 1 dX6_isOne_80 rfl ?_
    refine y_iload_n C 2 dX6_isOne_81 rfl ?_
    refine y_iload_n C 3 dX6_isOne_82 rfl ?_
    refine y_pcall C (m_X6_manyBoundTo (l := l) (D := D) (cA := cA) (cB := cB) (y := y) (ms := ms) (ma := ma) (mp := mp) (mk := mk) (md := md) (me := me) (mo := mo) (np := np) (ik := ik) (ml := ml) (sp := sp) (wr := wr) (tp := tp) (bt := bt) (lf := lf) (rg := rg) (dp := dp) (u := u) (row := row) (c := c) (by first | assumption | omega | exact ⟨by omega, by omega⟩) (by first | assumption | omega | exact ⟨by omega, by omega⟩) (by first | assumption | omega | exact ⟨by omega, by omega⟩)) lk_X6_155 [0, 1] [2] [1, 2, 0] ⟨rfl, rfl, by decide, by decide, by decide⟩ ⟨rfl, by decide⟩ rfl rfl dX6_isOne_83 rfl rfl ⟨by exact Nat.le_of_ble_eq_true rfl, by exact Nat.le_of_ble_eq_true rfl, rfl, rfl, by exact Nat.le_of_ble_eq_true rfl, by exact Nat.le_of_ble_eq_true rfl, by exact Nat.le_of_ble_eq_true rfl⟩ (fun r_9 h_8 => ?_)
    have hm := (h_8).1
    refine y_if_ne C 93 dX6_isOne_86 (by decide) ⟨by omega, by omega⟩ (fun c_10 => ?_) (fun c_10 => ?_)
    · refine y_iconst C dX6_isOne_93 ?_
      refine hret _ _ _ _ dX6_isOne_94 ⟨rfl, ?_⟩
      show ((0 = 1 ∧ (kindP (u 0) (zp u row) (zd u row) (zk u row) (seeR u row) (bndR u row) wh c)) ∨ (0 = 0 ∧ ¬ (kindP (u 0) (zp u row) (zd u row) (zk u row) (seeR u row) (bndR u row) wh c)))
      unfold kindP; omega
    · refine y_iconst C dX6_isOne_89 ?_
      refine y_goto C 94 dX6_isOne_90 (by decide) ?_
      refine hret _ _ _ _ dX6_isOne_94 ⟨rfl, ?_⟩
      show ((1 = 1 ∧ (kindP (u 0) (zp u row) (zd u row) (zk u row) (seeR u row) (bndR u row) wh c)) ∨ (1 = 0 ∧ ¬ (kindP (u 0) (zp u row) (zd u row) (zk u row) (seeR u row) (bndR u row) wh c)))
      unfold kindP; omega
  · refine y_tin C 95 3 dX6_isOne_9 ⟨by omega, by omega⟩ ⟨by omega, by omega⟩ (by omega) rfl (by decide) ?_
    refine y_iload C 0 dX6_isOne_95 rfl ?_
    refine y_iconst C dX6_isOne_97 ?_
    refine y_icmp_eq C 121 dX6_isOne_98 (by decide) ⟨⟨by omega, by omega⟩, ⟨by omega, by omega⟩⟩ (fun c_11 => ?_) (fun c_11 => ?_)
    · refine y_iconst C dX6_isOne_121 ?_
      refine hret _ _ _ _ dX6_isOne_122 ⟨rfl, ?_⟩
      show ((0 = 1 ∧ (kindP (u 0) (zp u row) (zd u row) (zk u row) (seeR u row) (bndR u row) wh c)) ∨ (0 = 0 ∧ ¬ (kindP (u 0) (zp u row) (zd u row) (zk u row) (seeR u row) (bndR u row) wh c)))
      unfold kindP; omega
    · have hto : r_2 = zb (u 0) (zp u row) c := by omega
      refine y_aload_n C 1 dX6_isOne_101 rfl ?_
      refine y_iload_n C 2 dX6_isOne_102 rfl ?_
      refine y_iload C 0 dX6_isOne_103 rfl ?_
      refine y_pcall C (m_X6_dotOf (l := l) (D := D) (cA := cA) (cB := cB) (y := y) (ms := ms) (ma := ma) (mp := mp) (mk := mk) (md := md) (me := me) (mo := mo) (np := np) (ik := ik) (ml := ml) (sp := sp) (wr := wr) (tp := tp) (bt := bt) (lf := lf) (rg := rg) (dp := dp) (u := u) (row := row) (c := r_2) (by first | assumption | omega | exact ⟨by omega, by omega⟩) (by first | assumption | omega | exact ⟨by omega, by omega⟩) (by first | assumption | omega | exact ⟨by omega, by omega⟩)) lk_X6_56 [0, 1] [2] [1, 2, 0] ⟨rfl, rfl, by decide, by decide, by decide⟩ ⟨rfl, by decide⟩ rfl rfl dX6_isOne_105 rfl rfl ⟨by exact Nat.le_of_ble_eq_true rfl, by exact Nat.le_of_ble_eq_true rfl, rfl, rfl, by exact Nat.le_of_ble_eq_true rfl, by exact Nat.le_of_ble_eq_true rfl, by exact Nat.le_of_ble_eq_true rfl⟩ (fun r_13 h_12 => ?_)
      have hd1 : r_13 = zd u row (zb (u 0) (zp u row) c) := by rw [← hto]; exact (h_12).1
      refine y_aload_n C 1 dX6_isOne_108 rfl ?_
      refine y_iload_n C 2 dX6_isOne_109 rfl ?_
      refine y_iload_n C 3 dX6_isOne_110 rfl ?_
      refine y_pcall C (m_X6_dotOf (l := l) (D := D) (cA := cA) (cB := cB) (y := y) (ms := ms) (ma := ma) (mp := mp) (mk := mk) (md := md) (me := me) (mo := mo) (np := np) (ik := ik) (ml := ml) (sp := sp) (wr := wr) (tp := tp) (bt := bt) (lf := lf) (rg := rg) (dp := dp) (u := u) (row := row) (c := c) (by first | assumption | omega | exact ⟨by omega, by omega⟩) (by first | assumption | omega | exact ⟨by omega, by omega⟩) (by first | assumption | omega | exact ⟨by omega, by omega⟩)) lk_X6_56 [0, 1] [2] [1, 2, 0] ⟨rfl, rfl, by decide, by decide, by decide⟩ ⟨rfl, by decide⟩ rfl rfl dX6_isOne_111 rfl rfl ⟨by exact Nat.le_of_ble_eq_true rfl, by exact Nat.le_of_ble_eq_true rfl, rfl, rfl, by exact Nat.le_of_ble_eq_true rfl, by exact Nat.le_of_ble_eq_true rfl, by exact Nat.le_of_ble_eq_true rfl⟩ (fun r_15 h_14 => ?_)
      have hd2 := (h_14).1
      refine y_icmp_eq C 121 dX6_isOne_114 (by decide) ⟨⟨by omega, by omega⟩, ⟨by omega, by omega⟩⟩ (fun c_16 => ?_) (fun c_16 => ?_)
      · refine y_iconst C dX6_isOne_121 ?_
        refine hret _ _ _ _ dX6_isOne_122 ⟨rfl, ?_⟩
        show ((0 = 1 ∧ (kindP (u 0) (zp u row) (zd u row) (zk u row) (seeR u row) (bndR u row) wh c)) ∨ (0 = 0 ∧ ¬ (kindP (u 0) (zp u row) (zd u row) (zk u row) (seeR u row) (bndR u row) wh c)))
        unfold kindP; omega
      · refine y_iconst C dX6_isOne_117 ?_
        refine y_goto C 122 dX6_isOne_118 (by decide) ?_
        refine hret _ _ _ _ dX6_isOne_122 ⟨rfl, ?_⟩
        show ((1 = 1 ∧ (kindP (u 0) (zp u row) (zd u row) (zk u row) (seeR u row) (bndR u row) wh c)) ∨ (1 = 0 ∧ ¬ (kindP (u 0) (zp u row) (zd u row) (zk u row) (seeR u row) (bndR u row) wh c)))
        unfold kindP; omega
  · refine y_tin C 123 4 dX6_isOne_9 ⟨by omega, by omega⟩ ⟨by omega, by omega⟩ (by omega) rfl (by decide) ?_
    refine y_aload_n C 1 dX6_isOne_123 rfl ?_
    refine y_iload_n C 2 dX6_isOne_124 rfl ?_
    refine y_iload_n C 3 dX6_isOne_125 rfl ?_
    refine y_pcall C (m_X6_isRight (l := l) (D := D) (cA := cA) (cB := cB) (y := y) (ms := ms) (ma := ma) (mp := mp) (mk := mk) (md := md) (me := me) (mo := mo) (np := np) (ik := ik) (ml := ml) (sp := sp) (wr := wr) (tp := tp) (bt := bt) (lf := lf) (rg := rg) (dp := dp) (u := u) (sn := sn) (row := row) (c := c) (by first | assumption | omega | exact ⟨by omega, by omega⟩) (by first | assumption | omega | exact ⟨by omega, by omega⟩) (by first | assumption | omega | exact ⟨by omega, by omega⟩) (by first | assumption | omega | exact ⟨by omega, by omega⟩)) lk_X6_70 [0, 1, 2] [] [0, 1, 2] ⟨rfl, rfl, by decide, by decide, by decide⟩ ⟨rfl, by decide⟩ rfl rfl dX6_isOne_126 rfl rfl ⟨by exact Nat.le_of_ble_eq_true rfl, by exact Nat.le_of_ble_eq_true rfl, rfl, rfl, by exact Nat.le_of_ble_eq_true rfl, by exact Nat.le_of_ble_eq_true rfl, by exact Nat.le_of_ble_eq_true rfl⟩ (fun r_18 h_17 => ?_)
    have hk := h_17
    refine hret _ _ _ _ dX6_isOne_129 ⟨rfl, ?_⟩
    show ((r_18 = 1 ∧ (kindP (u 0) (zp u row) (zd u row) (zk u row) (seeR u row) (bndR u row) wh c)) ∨ (r_18 = 0 ∧ ¬ (kindP (u 0) (zp u row) (zd u row) (zk u row) (seeR u row) (bndR u row) wh c)))
    unfold kindP; omega
  · refine y_tin C 130 5 dX6_isOne_9 ⟨by omega, by omega⟩ ⟨by omega, by omega⟩ (by omega) rfl (by decide) ?_
    refine y_aload_n C 1 dX6_isOne_130 rfl ?_
    refine y_get C fg_X6_25 0 dX6_isOne_131 rfl rfl ?_
    refine y_iload_n C 3 dX6_isOne_134 rfl ?_
    refine y_iald C 2 0 dX6_isOne_135 rfl rfl ⟨by omega, by omega, by omega⟩ ?_
    refine y_iconst C dX6_isOne_136 ?_
    refine y_icmp_eq C 153 dX6_isOne_137 (by decide) ⟨⟨by omega, by omega⟩, ⟨by omega, by omega⟩⟩ (fun c_19 => ?_) (fun c_19 => ?_)
    · refine y_iconst C dX6_isOne_153 ?_
      refine hret _ _ _ _ dX6_isOne_154 ⟨rfl, ?_⟩
      show ((0 = 1 ∧ (kindP (u 0) (zp u row) (zd u row) (zk u row) (seeR u row) (bndR u row) wh c)) ∨ (0 = 0 ∧ ¬ (kindP (u 0) (zp u row) (zd u row) (zk u row) (seeR u row) (bndR u row) wh c)))
      unfold kindP; omega
    · refine y_aload_n C 1 dX6_isOne_140 rfl ?_
      refine y_iload_n C 2 dX6_isOne_141 rfl ?_
      refine y_iload_n C 3 dX6_isOne_142 rfl ?_
      refine y_pcall C (m_X6_isRight (l := l) (D := D) (cA := cA) (cB := cB) (y := y) (ms := ms) (ma := ma) (mp := mp) (mk := mk) (md := md) (me := me) (mo := mo) (np := np) (ik := ik) (ml := ml) (sp := sp) (wr := wr) (tp := tp) (bt := bt) (lf := lf) (rg := rg) (dp := dp) (u := u) (sn := sn) (row := row) (c := c) (by first | assumption | omega | exact ⟨by omega, by omega⟩) (by first | assumption | omega | exact ⟨by omega, by omega⟩) (by first | assumption | omega | exact ⟨by omega, by omega⟩) (by first | assumption | omega | exact ⟨by omega, by omega⟩)) lk_X6_70 [0, 1, 2] [] [0, 1, 2] ⟨rfl, rfl, by decide, by decide, by decide⟩ ⟨rfl, by decide⟩ rfl rfl dX6_isOne_143 rfl rfl ⟨by exact Nat.le_of_ble_eq_true rfl, by exact Nat.le_of_ble_eq_true rfl, rfl, rfl, by exact Nat.le_of_ble_eq_true rfl, by exact Nat.le_of_ble_eq_true rfl, by exact Nat.le_of_ble_eq_true rfl⟩ (fun r_21 h_20 => ?_)
      have hk := h_20
      refine y_if_ne C 153 dX6_isOne_146 (by decide) ⟨by omega, by omega⟩ (fun c_22 => ?_) (fun c_22 => ?_)
      · refine y_iconst C dX6_isOne_153 ?_
        refine hret _ _ _ _ dX6_isOne_154 ⟨rfl, ?_⟩
        show ((0 = 1 ∧ (kindP (u 0) (zp u row) (zd u row) (zk u row) (seeR u row) (bndR u row) wh c)) ∨ (0 = 0 ∧ ¬ (kindP (u 0) (zp u row) (zd u row) (zk u row) (seeR u row) (bndR u row) wh c)))
        unfold kindP; omega
      · refine y_iconst C dX6_isOne_149 ?_
        refine y_goto C 154 dX6_isOne_150 (by decide) ?_
        refine hret _ _ _ _ dX6_isOne_154 ⟨rfl, ?_⟩
        show ((1 = 1 ∧ (kindP (u 0) (zp u row) (zd u row) (zk u row) (seeR u row) (bndR u row) wh c)) ∨ (1 = 0 ∧ ¬ (kindP (u 0) (zp u row) (zd u row) (zk u row) (seeR u row) (bndR u row) wh c)))
        unfold kindP; omega
  · refine y_tin C 155 6 dX6_isOne_9 ⟨by omega, by omega⟩ ⟨by omega, by omega⟩ (by omega) rfl (by decide) ?_
    refine y_aload_n C 1 dX6_isOne_155 rfl ?_
    refine y_get C fg_X6_25 0 dX6_isOne_156 rfl rfl ?_
    refine y_iload_n C 3 dX6_isOne_159 rfl ?_
    refine y_iald C 2 0 dX6_isOne_160 rfl rfl ⟨by omega, by omega, by omega⟩ ?_
    refine y_iconst C dX6_isOne_161 ?_
    refine y_icmp_ne C 169 dX6_isOne_162 (by decide) ⟨⟨by omega, by omega⟩, ⟨by omega, by omega⟩⟩ (fun c_23 => ?_) (fun c_23 => ?_)
    · refine y_iconst C dX6_isOne_169 ?_
      refine hret _ _ _ _ dX6_isOne_170 ⟨rfl, ?_⟩
      show ((0 = 1 ∧ (kindP (u 0) (zp u row) (zd u row) (zk u row) (seeR u row) (bndR u row) wh c)) ∨ (0 = 0 ∧ ¬ (kindP (u 0) (zp u row) (zd u row) (zk u row) (seeR u row) (bndR u row) wh c)))
      unfold kindP; omega
    · refine y_iconst C dX6_isOne_165 ?_
      refine y_goto C 170 dX6_isOne_166 (by decide) ?_
      refine hret _ _ _ _ dX6_isOne_170 ⟨rfl, ?_⟩
      show ((1 = 1 ∧ (kindP (u 0) (zp u row) (zd u row) (zk u row) (seeR u row) (bndR u row) wh c)) ∨ (1 = 0 ∧ ¬ (kindP (u 0) (zp u row) (zd u row) (zk u row) (seeR u row) (bndR u row) wh c)))
      unfold kindP; omega
  · refine y_tout C 171 dX6_isOne_9 ⟨by omega, by omega⟩ (by omega) (by decide) ?_
    refine y_aload_n C 1 dX6_isOne_171 rfl ?_
    refine y_get C fg_X6_7 0 dX6_isOne_172 rfl rfl ?_
    refine y_sipush C dX6_isOne_175 (by decide +kernel) ?_
    refine y_iload_n C 2 dX6_isOne_178 rfl ?_
    refine y_iload_n C 3 dX6_isOne_179 rfl ?_
    refine y_pcalls C (m_X6_place (l := l) (D := D) (cA := cA) (cB := cB) (rr := row) (cc := c) ) lk_X6_35 [] [0, 1, 2] [0, 1, 2] ⟨rfl, rfl, by decide, by decide, by decide⟩ ⟨rfl, by decide⟩ dX6_isOne_180 rfl rfl ⟨by exact Nat.le_of_ble_eq_true rfl, by exact Nat.le_of_ble_eq_true rfl, rfl, rfl, by exact Nat.le_of_ble_eq_true rfl, by exact Nat.le_of_ble_eq_true rfl, by exact Nat.le_of_ble_eq_true rfl⟩ (fun r_25 h_24 => ?_)
    refine y_iadd C dX6_isOne_183 ?_
    refine y_top (show (544 + r_25) = (544 + (row * 32 + c)) from by omega) ?_
    refine y_iald C 1 0 dX6_isOne_184 rfl rfl ⟨by omega, by omega, by omega⟩ ?_
    refine y_if_le C 192 dX6_isOne_185 (by decide) ⟨by omega, by omega⟩ (fun c_26 => ?_) (fun c_26 => ?_)
    · refine y_iconst C dX6_isOne_192 ?_
      refine hret _ _ _ _ dX6_isOne_193 ⟨rfl, ?_⟩
      show ((0 = 1 ∧ (kindP (u 0) (zp u row) (zd u row) (zk u row) (seeR u row) (bndR u row) wh c)) ∨ (0 = 0 ∧ ¬ (kindP (u 0) (zp u row) (zd u row) (zk u row) (seeR u row) (bndR u row) wh c)))
      unfold kindP; omega
    · refine y_iconst C dX6_isOne_188 ?_
      refine y_goto C 193 dX6_isOne_189 (by decide) ?_
      refine hret _ _ _ _ dX6_isOne_193 ⟨rfl, ?_⟩
      show ((1 = 1 ∧ (kindP (u 0) (zp u row) (zd u row) (zk u row) (seeR u row) (bndR u row) wh c)) ∨ (1 = 0 ∧ ¬ (kindP (u 0) (zp u row) (zd u row) (zk u row) (seeR u row) (bndR u row) wh c)))
      unfold kindP; omega

set_option maxHeartbeats 4000000 in
set_option maxRecDepth 100000 in
theorem m_X6_many {l : Launch} {D : va_G} {cA cB : ClassId} {y ms ma mp mk md me mo : Nat} {np ik ml sp wr tp bt lf rg dp : Int} {u sn : Int → Int} {row wh : Int} (hrow : 0 ≤ row ∧ row < 8) (hwh : 0 ≤ wh ∧ wh ≤ 7) (hU : UK u) : MI l yX6_many cX6_many 5 .int { frames := 5, cells := 0, slots := 0, locals := 121 } D (zT cA cB) [.ref y, .int (zI row), .int (zI wh)] [cO y 6 [.ref ms, .ref ma, .ref mp, .int (zI np), .ref mk, .int (zI ik), .ref md, .int (zI ml), .ref me, .ref mo, .int (zI sp), .int (zI wr), .int (zI tp), .int (zI bt), .int (zI lf), .int (zI rg), .int (zI dp)], cI cA ms 800 u, cI cA me 32 sn] (fun r w => ∃ (sn2 : Int → Int), w = [cO y 6 [.ref ms, .ref ma, .ref mp, .int (zI np), .ref mk, .int (zI ik), .ref md, .int (zI ml), .ref me, .ref mo, .int (zI sp), .int (zI wr), .int (zI tp), .int (zI bt), .int (zI lf), .int (zI rg), .int (zI dp)], cI cA ms 800 u, cI cA me 32 sn2] ∧ (r = kndR u row wh ∧ 0 ≤ r ∧ r ≤ 32)) := by
  refine MI.of RX6 ⟨rfl, by decide +kernel⟩ (Or.inl rfl) (Nat.le_of_ble_eq_true rfl) (fun h => by cases h) ?_
  intro K C hret
  change K 0 0 _ [(0, .ref y), (1, .int (zI row)), (2, .int (zI wh))] 0 []
  refine y_aload_n C 0 dX6_many_0 rfl ?_
  refine y_iload_n C 1 dX6_many_1 rfl ?_
  refine y_mcallv C (m_X6_looks (l := l) (D := D) (cA := cA) (cB := cB) (y := y) (ms := ms) (ma := ma) (mp := mp) (mk := mk) (md := md) (me := me) (mo := mo) (np := np) (ik := ik) (ml := ml) (sp := sp) (wr := wr) (tp := tp) (bt := bt) (lf := lf) (rg := rg) (dp := dp) (u := u) (sn := sn) (row := row) (by first | assumption | omega | exact ⟨by omega, by omega⟩) (by first | assumption | omega | exact ⟨by omega, by omega⟩)) lk_X6_66 [0, 1, 2] [] ⟨rfl, rfl, by decide, by decide, by decide⟩ (jb := 0) rfl rfl dX6_many_2 rfl rfl ⟨by exact Nat.le_of_ble_eq_true rfl, by exact Nat.le_of_ble_eq_true rfl, rfl, rfl, by exact Nat.le_of_ble_eq_true rfl, by exact Nat.le_of_ble_eq_true rfl, by exact Nat.le_of_ble_eq_true rfl⟩ (fun w_4 h_1 => ?_)
  obtain ⟨sn2_3, rfl, h_1⟩ := h_1
  refine ⟨[0, 1, 2], [cO y 6 [.ref ms, .ref ma, .ref mp, .int (zI np), .ref mk, .int (zI ik), .ref md, .int (zI ml), .ref me, .ref mo, .int (zI sp), .int (zI wr), .int (zI tp), .int (zI bt), .int (zI lf), .int (zI rg), .int (zI dp)], cI cA ms 800 u, cI cA me 32 sn2_3], ⟨rfl, by decide⟩, ?_⟩
  have hl := h_1
  refine y_iconst C dX6_many_5 ?_
  refine y_istore_n C [(3, .int (zI 0)), (0, .ref y), (1, .int (zI row)), (2, .int (zI wh))] dX6_many_6 (by decide) rfl ?_
  refine y_iconst C dX6_many_7 ?_
  refine y_istore C [(4, .int (zI 0)), (3, .int (zI 0)), (0, .ref y), (1, .int (zI row)), (2, .int (zI wh))] dX6_many_8 (by decide) rfl ?_
  refine y_lsub C [2, 3, 4, 1, 0] (lv' := [(0, .ref y), (1, .int (zI row)), (2, .int (zI wh)), (3, .int (zI 0)), (4, .int (zI 0))]) rfl ?_
  suffices hL10 : ∀ (fu : Nat) (n : Int) (c : Int), (0 ≤ c ∧ c ≤ 32) → (n = zcnt (kindP (u 0) (zp u row) (zd u row) (zk u row) (seeR u row) (bndR u row) wh) c ∧ 0 ≤ n ∧ n ≤ c) → (32 - c).toNat < fu → K 0 0 [cO y 6 [.ref ms, .ref ma, .ref mp, .int (zI np), .ref mk, .int (zI ik), .ref md, .int (zI ml), .ref me, .ref mo, .int (zI sp), .int (zI wr), .int (zI tp), .int (zI bt), .int (zI lf), .int (zI rg), .int (zI dp)], cI cA ms 800 u, cI cA me 32 sn2_3] [(0, .ref y), (1, .int (zI row)), (2, .int (zI wh)), (3, .int (zI n)), (4, .int (zI c))] 10 [] from hL10 _ 0 0 (by omega) (by exact ⟨rfl, by omega, by omega⟩) (Nat.lt_succ_self _)
  intro f10
  induction f10 with
  | zero => exact fun _ _ _ _ hf => absurd hf (Nat.not_lt_zero _)
  | succ f10 ih10 =>
    intro n c hc hn hf10
    refine y_iload C 4 dX6_many_10 rfl ?_
    refine y_bipush C dX6_many_12 (by decide +kernel) ?_
    refine y_icmp_ge C 42 dX6_many_14 (by decide) ⟨⟨by omega, by omega⟩, ⟨by omega, by omega⟩⟩ (fun c_5 => ?_) (fun c_5 => ?_)
    · refine y_iload_n C 3 dX6_many_42 rfl ?_
      refine hret _ _ _ _ dX6_many_43 ⟨sn2_3, rfl, ?_⟩
      show (n = kndR u row wh ∧ 0 ≤ n ∧ n ≤ 32)
      obtain rfl : c = 32 := by omega
      exact hn
    · refine y_iload_n C 3 dX6_many_17 rfl ?_
      refine y_aload_n C 0 dX6_many_18 rfl ?_
      refine y_iload_n C 1 dX6_many_19 rfl ?_
      refine y_iload C 4 dX6_many_20 rfl ?_
      refine y_iload_n C 2 dX6_many_22 rfl ?_
      refine y_pcall C (m_X6_isOne (l := l) (D := D) (cA := cA) (cB := cB) (y := y) (ms := ms) (ma := ma) (mp := mp) (mk := mk) (md := md) (me := me) (mo := mo) (np := np) (ik := ik) (ml := ml) (sp := sp) (wr := wr) (tp := tp) (bt := bt) (lf := lf) (rg := rg) (dp := dp) (u := u) (sn := sn2_3) (row := row) (c := c) (wh := wh) (by first | assumption | omega | exact ⟨by omega, by omega⟩) (by first | assumption | omega | exact ⟨by omega, by omega⟩) (by first | assumption | omega | exact ⟨by omega, by omega⟩) (by first | assumption | omega | exact ⟨by omega, by omega⟩) (by first | assumption | omega | exact ⟨by omega, by omega⟩)) lk_X6_161 [0, 1, 2] [] [0, 1, 2] ⟨rfl, rfl, by decide, by decide, by decide⟩ ⟨rfl, by decide⟩ rfl rfl dX6_many_23 rfl rfl ⟨by exact Nat.le_of_ble_eq_true rfl, by exact Nat.le_of_ble_eq_true rfl, rfl, rfl, by exact Nat.le_of_ble_eq_true rfl, by exact Nat.le_of_ble_eq_true rfl, by exact Nat.le_of_ble_eq_true rfl⟩ (fun r_7 h_6 => ?_)
      have hk := h_6
      refine y_if_eq C 33 dX6_many_26 (by decide) ⟨by omega, by omega⟩ (fun c_8 => ?_) (fun c_8 => ?_)
      · refine y_iconst C dX6_many_33 ?_
        refine y_iadd C dX6_many_34 ?_
        refine y_istore_n C [(3, .int (zI (n + 0))), (0, .ref y), (1, .int (zI row)), (2, .int (zI wh)), (4, .int (zI c))] dX6_many_35 (by decide) rfl ?_
        refine y_iinc C 4 [(4, .int (zI (c + 1))), (3, .int (zI (n + 0))), (0, .ref y), (1, .int (zI row)), (2, .int (zI wh))] dX6_many_36 rfl (by decide) rfl ?_
        refine y_goto C 10 dX6_many_39 (by decide) ?_
        refine y_lsub C [2, 3, 4, 1, 0] (lv' := [(0, .ref y), (1, .int (zI row)), (2, .int (zI wh)), (3, .int (zI (n + 0))), (4, .int (zI (c + 1)))]) rfl ?_
        exact ih10 (n + 0) (c + 1) (by omega) (by refine ⟨?_, by omega, by omega⟩; rcases hk with z | z; (first | (exfalso; omega) | (rw [zcnt_t (by omega) z.2]; omega)); (first | (exfalso; omega) | (rw [zcnt_f (by omega) z.2]; omega))) (by omega)
      · refine y_iconst C dX6_many_29 ?_
        refine y_goto C 34 dX6_many_30 (by decide) ?_
        refine y_iadd C dX6_many_34 ?_
        refine y_istore_n C [(3, .int (zI (n + 1))), (0, .ref y), (1, .int (zI row)), (2, .int (zI wh)), (4, .int (zI c))] dX6_many_35 (by decide) rfl ?_
        refine y_iinc C 4 [(4, .int (zI (c + 1))), (3, .int (zI (n + 1))), (0, .ref y), (1, .int (zI row)), (2, .int (zI wh))] dX6_many_36 rfl (by decide) rfl ?_
        refine y_goto C 10 dX6_many_39 (by decide) ?_
        refine y_lsub C [2, 3, 4, 1, 0] (lv' := [(0, .ref y), (1, .int (zI row)), (2, .int (zI wh)), (3, .int (zI (n + 1))), (4, .int (zI (c + 1)))]) rfl ?_
        exact ih10 (n + 1) (c + 1) (by omega) (by refine ⟨?_, by omega, by omega⟩; rcases hk with z | z; (first | (exfalso; omega) | (rw [zcnt_t (by omega) z.2]; omega)); (first | (exfalso; omega) | (rw [zcnt_f (by omega) z.2]; omega))) (by omega)

set_option maxHeartbeats 4000000 in
set_option maxRecDepth 100000 in
theorem m_X6_longestChain {l : Launch} {D : va_G} {cA cB : ClassId} {y ms ma mp mk md me mo : Nat} {np ik ml sp wr tp bt lf rg dp : Int} {u : Int → Int} {row : Int} (hrow : 0 ≤ row ∧ row < 8) (hU : UK u) : MI l yX6_longestChain cX6_longestChain 4 .int { frames := 5, cells := 0, slots := 0, locals := 113 } D (zT cA cB) [.ref y, .int (zI row)] [cO y 6 [.ref ms, .ref ma, .ref mp, .int (zI np), .ref mk, .int (zI ik), .ref md, .int (zI ml), .ref me, .ref mo, .int (zI sp), .int (zI wr), .int (zI tp), .int (zI bt), .int (zI lf), .int (zI rg), .int (zI dp)], cI cA ms 800 u] (fun r w => w = [cO y 6 [.ref ms, .ref ma, .ref mp, .int (zI np), .ref mk, .int (zI ik), .ref md, .int (zI ml), .ref me, .ref mo, .int (zI sp), .int (zI wr), .int (zI tp), .int (zI bt), .int (zI lf), .int (zI rg), .int (zI dp)], cI cA ms 800 u] ∧ r = longZ u row ∧ 0 ≤ r ∧ r ≤ 32) := by
  refine MI.of RX6 ⟨rfl, by decide +kernel⟩ (Or.inl rfl) (Nat.le_of_ble_eq_true rfl) (fun h => by cases h) ?_
  intro K C hret
  change K 0 0 _ [(0, .ref y), (1, .int (zI row))] 0 []
  refine y_iconst C dX6_longestChain_0 ?_
  refine y_istore_n C [(2, .int (zI 0)), (0, .ref y), (1, .int (zI row))] dX6_longestChain_1 (by decide) rfl ?_
  refine y_iconst C dX6_longestChain_2 ?_
  refine y_istore_n C [(3, .int (zI 0)), (2, .int (zI 0)), (0, .ref y), (1, .int (zI row))] dX6_longestChain_3 (by decide) rfl ?_
  refine y_lsub C [2, 3, 1, 0] (lv' := [(0, .ref y), (1, .int (zI row)), (2, .int (zI 0)), (3, .int (zI 0))]) rfl ?_
  suffices hL4 : ∀ (fu : Nat) (n : Int) (c : Int), (0 ≤ c ∧ c ≤ 32) → (n = maxZ (fun q => zcnt (fun k => chnR u row k = q) 32) c ∧ 0 ≤ n ∧ n ≤ 32) → (32 - c).toNat < fu → K 0 0 [cO y 6 [.ref ms, .ref ma, .ref mp, .int (zI np), .ref mk, .int (zI ik), .ref md, .int (zI ml), .ref me, .ref mo, .int (zI sp), .int (zI wr), .int (zI tp), .int (zI bt), .int (zI lf), .int (zI rg), .int (zI dp)], cI cA ms 800 u] [(0, .ref y), (1, .int (zI row)), (2, .int (zI n)), (3, .int (zI c))] 4 [] from hL4 _ 0 0 (by omega) (by exact ⟨rfl, by omega, by omega⟩) (Nat.lt_succ_self _)
  intro f4
  induction f4 with
  | zero => exact fun _ _ _ _ hf => absurd hf (Nat.not_lt_zero _)
  | succ f4 ih4 =>
    intro n c hc hn hf4
    refine y_iload_n C 3 dX6_longestChain_4 rfl ?_
    refine y_bipush C dX6_longestChain_5 (by decide +kernel) ?_
    refine y_icmp_ge C 41 dX6_longestChain_7 (by decide) ⟨⟨by omega, by omega⟩, ⟨by omega, by omega⟩⟩ (fun c_1 => ?_) (fun c_1 => ?_)
    · refine y_iload_n C 2 dX6_longestChain_41 rfl ?_
      refine hret _ _ _ _ dX6_longestChain_42 ⟨rfl, ?_⟩
      show n = longZ u row ∧ 0 ≤ n ∧ n ≤ 32
      obtain rfl : c = 32 := by omega
      exact hn
    · refine y_iload_n C 2 dX6_longestChain_10 rfl ?_
      refine y_aload_n C 0 dX6_longestChain_11 rfl ?_
      refine y_iload_n C 1 dX6_longestChain_12 rfl ?_
      refine y_iload_n C 3 dX6_longestChain_13 rfl ?_
      refine y_pcall C (m_X6_boundTo (l := l) (D := D) (cA := cA) (cB := cB) (y := y) (ms := ms) (ma := ma) (mp := mp) (mk := mk) (md := md) (me := me) (mo := mo) (np := np) (ik := ik) (ml := ml) (sp := sp) (wr := wr) (tp := tp) (bt := bt) (lf := lf) (rg := rg) (dp := dp) (u := u) (row := row) (c := c) (by first | assumption | omega | exact ⟨by omega, by omega⟩) (by first | assumption | omega | exact ⟨by omega, by omega⟩) (by first | assumption | omega | exact ⟨by omega, by omega⟩)) lk_X6_46 [0, 1] [] [0, 1] ⟨rfl, rfl, by decide, by decide, by decide⟩ ⟨rfl, by decide⟩ rfl rfl dX6_longestChain_14 rfl rfl ⟨by exact Nat.le_of_ble_eq_true rfl, by exact Nat.le_of_ble_eq_true rfl, rfl, rfl, by exact Nat.le_of_ble_eq_true rfl, by exact Nat.le_of_ble_eq_true rfl, by exact Nat.le_of_ble_eq_true rfl⟩ (fun r_3 h_2 => ?_)
      have hb := h_2
      refine y_iconst C dX6_longestChain_17 ?_
      refine y_icmp_ne C 30 dX6_longestChain_18 (by decide) ⟨⟨by omega, by omega⟩, ⟨by omega, by omega⟩⟩ (fun c_4 => ?_) (fun c_4 => ?_)
      · refine y_iconst C dX6_longestChain_30 ?_
        refine y_pcalls C (m_X6_greater (l := l) (D := D) (cA := cA) (cB := cB) (aa := n) (bb := 0) (by exact ⟨by omega, by omega⟩) (by exact ⟨by omega, by omega⟩)) lk_X6_164 [] [0, 1] [0, 1] ⟨rfl, rfl, by decide, by decide, by decide⟩ ⟨rfl, by decide⟩ dX6_longestChain_31 rfl rfl ⟨by exact Nat.le_of_ble_eq_true rfl, by exact Nat.le_of_ble_eq_true rfl, rfl, rfl, by exact Nat.le_of_ble_eq_true rfl, by exact Nat.le_of_ble_eq_true rfl, by exact Nat.le_of_ble_eq_true rfl⟩ (fun r_6 h_5 => ?_)
        have hgt := h_5
        refine y_istore_n C [(2, .int (zI r_6)), (0, .ref y), (1, .int (zI row)), (3, .int (zI c))] dX6_longestChain_34 (by decide) rfl ?_
        refine y_iinc C 3 [(3, .int (zI (c + 1))), (2, .int (zI r_6)), (0, .ref y), (1, .int (zI row))] dX6_longestChain_35 rfl (by decide) rfl ?_
        refine y_goto C 4 dX6_longestChain_38 (by decide) ?_
        refine y_lsub C [2, 3, 1, 0] (lv' := [(0, .ref y), (1, .int (zI row)), (2, .int (zI r_6)), (3, .int (zI (c + 1)))]) rfl ?_
        exact ih4 r_6 (c + 1) (by omega) (by refine ⟨?_, by omega, by omega⟩; rw [maxZ_s _ (by omega), ← hn.1]; first | (have e1 : chnR u row c = c := chZ_f (by omega)); rw [e1] at hch; omega | (have e2 : zcnt (fun k => chnR u row k = c) 32 = 0 := zcnt_none (fun k a b z => by have e3 := chnR_free hU hrow ⟨a, b⟩; rw [z] at e3; omega)); rw [e2]; omega) (by omega)
      · refine y_aload_n C 0 dX6_longestChain_21 rfl ?_
        refine y_iload_n C 1 dX6_longestChain_22 rfl ?_
        refine y_iload_n C 3 dX6_longestChain_23 rfl ?_
        refine y_pcall C (m_X6_chain (l := l) (D := D) (cA := cA) (cB := cB) (y := y) (ms := ms) (ma := ma) (mp := mp) (mk := mk) (md := md) (me := me) (mo := mo) (np := np) (ik := ik) (ml := ml) (sp := sp) (wr := wr) (tp := tp) (bt := bt) (lf := lf) (rg := rg) (dp := dp) (u := u) (row := row) (c := c) (by first | assumption | omega | exact ⟨by omega, by omega⟩) (by first | assumption | omega | exact ⟨by omega, by omega⟩) (by first | assumption | omega | exact ⟨by omega, by omega⟩)) lk_X6_158 [0, 1] [] [0, 1] ⟨rfl, rfl, by decide, by decide, by decide⟩ ⟨rfl, by decide⟩ rfl rfl dX6_longestChain_24 rfl rfl ⟨by exact Nat.le_of_ble_eq_true rfl, by exact Nat.le_of_ble_eq_true rfl, rfl, rfl, by exact Nat.le_of_ble_eq_true rfl, by exact Nat.le_of_ble_eq_true rfl, by exact Nat.le_of_ble_eq_true rfl⟩ (fun r_8 h_7 => ?_)
        have hch := (h_7).1
        refine y_goto C 31 dX6_longestChain_27 (by decide) ?_
        refine y_pcalls C (m_X6_greater (l := l) (D := D) (cA := cA) (cB := cB) (aa := n) (bb := r_8) (by exact ⟨by omega, by omega⟩) (by exact ⟨by omega, by omega⟩)) lk_X6_164 [] [0, 1] [0, 1] ⟨rfl, rfl, by decide, by decide, by decide⟩ ⟨rfl, by decide⟩ dX6_longestChain_31 rfl rfl ⟨by exact Nat.le_of_ble_eq_true rfl, by exact Nat.le_of_ble_eq_true rfl, rfl, rfl, by exact Nat.le_of_ble_eq_true rfl, by exact Nat.le_of_ble_eq_true rfl, by exact Nat.le_of_ble_eq_true rfl⟩ (fun r_10 h_9 => ?_)
        have hgt := h_9
        refine y_istore_n C [(2, .int (zI r_10)), (0, .ref y), (1, .int (zI row)), (3, .int (zI c))] dX6_longestChain_34 (by decide) rfl ?_
        refine y_iinc C 3 [(3, .int (zI (c + 1))), (2, .int (zI r_10)), (0, .ref y), (1, .int (zI row))] dX6_longestChain_35 rfl (by decide) rfl ?_
        refine y_goto C 4 dX6_longestChain_38 (by decide) ?_
        refine y_lsub C [2, 3, 1, 0] (lv' := [(0, .ref y), (1, .int (zI row)), (2, .int (zI r_10)), (3, .int (zI (c + 1)))]) rfl ?_
        exact ih4 r_10 (c + 1) (by omega) (by refine ⟨?_, by omega, by omega⟩; rw [maxZ_s _ (by omega), ← hn.1]; first | (have e1 : chnR u row c = c := chZ_f (by omega)); rw [e1] at hch; omega | (have e2 : zcnt (fun k => chnR u row k = c) 32 = 0 := zcnt_none (fun k a b z => by have e3 := chnR_free hU hrow ⟨a, b⟩; rw [z] at e3; omega)); rw [e2]; omega) (by omega)

set_option maxHeartbeats 4000000 in
set_option maxRecDepth 100000 in
theorem m_X6_differentDots {l : Launch} {D : va_G} {cA cB : ClassId} {y ms ma mp mk md me mo : Nat} {np ik ml sp wr tp bt lf rg dp : Int} {u : Int → Int} {row : Int} (hrow : 0 ≤ row ∧ row < 8) (hU : UK u) : MI l yX6_differentDots cX6_differentDots 6 .int { frames := 2, cells := 0, slots := 0, locals := 43 } D (zT cA cB) [.ref y, .int (zI row)] [cO y 6 [.ref ms, .ref ma, .ref mp, .int (zI np), .ref mk, .int (zI ik), .ref md, .int (zI ml), .ref me, .ref mo, .int (zI sp), .int (zI wr), .int (zI tp), .int (zI bt), .int (zI lf), .int (zI rg), .int (zI dp)], cI cA ms 800 u] (fun r w => w = [cO y 6 [.ref ms, .ref ma, .ref mp, .int (zI np), .ref mk, .int (zI ik), .ref md, .int (zI ml), .ref me, .ref mo, .int (zI sp), .int (zI wr), .int (zI tp), .int (zI bt), .int (zI lf), .int (zI rg), .int (zI dp)], cI cA ms 800 u] ∧ r = dotsZ u row ∧ 0 ≤ r ∧ r ≤ 8) := by
  refine MI.of RX6 ⟨rfl, by decide +kernel⟩ (Or.inl rfl) (Nat.le_of_ble_eq_true rfl) (fun h => by cases h) ?_
  intro K C hret
  change K 0 0 _ [(0, .ref y), (1, .int (zI row))] 0 []
  refine y_iconst C dX6_differentDots_0 ?_
  refine y_istore_n C [(2, .int (zI 0)), (0, .ref y), (1, .int (zI row))] dX6_differentDots_1 (by decide) rfl ?_
  refine y_iconst C dX6_differentDots_2 ?_
  refine y_istore_n C [(3, .int (zI 0)), (2, .int (zI 0)), (0, .ref y), (1, .int (zI row))] dX6_differentDots_3 (by decide) rfl ?_
  refine y_lsub C [2, 3, 1, 0] (lv' := [(0, .ref y), (1, .int (zI row)), (2, .int (zI 0)), (3, .int (zI 0))]) rfl ?_
  suffices hL4 : ∀ (fu : Nat) (n : Int) (v : Int), (0 ≤ v ∧ v ≤ 8) → (n = zcnt (fun v => ∃ k : Int, 0 ≤ k ∧ k < 32 ∧ zd u row k = v) v ∧ 0 ≤ n ∧ n ≤ v) → (32 - v).toNat < fu → K 0 0 [cO y 6 [.ref ms, .ref ma, .ref mp, .int (zI np), .ref mk, .int (zI ik), .ref md, .int (zI ml), .ref me, .ref mo, .int (zI sp), .int (zI wr), .int (zI tp), .int (zI bt), .int (zI lf), .int (zI rg), .int (zI dp)], cI cA ms 800 u] [(0, .ref y), (1, .int (zI row)), (2, .int (zI n)), (3, .int (zI v))] 4 [] from hL4 _ 0 0 (by omega) (by exact ⟨rfl, by omega, by omega⟩) (Nat.lt_succ_self _)
  intro f4
  induction f4 with
  | zero => exact fun _ _ _ _ hf => absurd hf (Nat.not_lt_zero _)
  | succ f4 ih4 =>
    intro n v hv hn hf4
    refine y_iload_n C 3 dX6_differentDots_4 rfl ?_
    refine y_bipush C dX6_differentDots_5 (by decide +kernel) ?_
    refine y_icmp_ge C 71 dX6_differentDots_7 (by decide) ⟨⟨by omega, by omega⟩, ⟨by omega, by omega⟩⟩ (fun c_1 => ?_) (fun c_1 => ?_)
    · refine y_iload_n C 2 dX6_differentDots_71 rfl ?_
      refine hret _ _ _ _ dX6_differentDots_72 ⟨rfl, ?_⟩
      show n = dotsZ u row ∧ 0 ≤ n ∧ n ≤ 8
      obtain rfl : v = 8 := by omega
      exact hn
    · refine y_iconst C dX6_differentDots_10 ?_
      refine y_istore C [(4, .int (zI 0)), (0, .ref y), (1, .int (zI row)), (2, .int (zI n)), (3, .int (zI v))] dX6_differentDots_11 (by decide) rfl ?_
      refine y_iconst C dX6_differentDots_13 ?_
      refine y_istore C [(5, .int (zI 0)), (4, .int (zI 0)), (0, .ref y), (1, .int (zI row)), (2, .int (zI n)), (3, .int (zI v))] dX6_differentDots_14 (by decide) rfl ?_
      refine y_lsub C [2, 3, 4, 5, 1, 0] (lv' := [(0, .ref y), (1, .int (zI row)), (2, .int (zI n)), (3, .int (zI v)), (4, .int (zI 0)), (5, .int (zI 0))]) rfl ?_
      suffices hL16 : ∀ (fu : Nat) (is : Int) (c : Int), (0 ≤ c ∧ c ≤ 32) → ((is = 1 ∧ ∃ k : Int, 0 ≤ k ∧ k < c ∧ zd u row k = v) ∨ (is = 0 ∧ ¬ ∃ k : Int, 0 ≤ k ∧ k < c ∧ zd u row k = v)) → (32 - c).toNat < fu → K 0 0 [cO y 6 [.ref ms, .ref ma, .ref mp, .int (zI np), .ref mk, .int (zI ik), .ref md, .int (zI ml), .ref me, .ref mo, .int (zI sp), .int (zI wr), .int (zI tp), .int (zI bt), .int (zI lf), .int (zI rg), .int (zI dp)], cI cA ms 800 u] [(0, .ref y), (1, .int (zI row)), (2, .int (zI n)), (3, .int (zI v)), (4, .int (zI is)), (5, .int (zI c))] 16 [] from hL16 _ 0 0 (by omega) (by exact Or.inr ⟨rfl, fun ⟨k, a, b, z⟩ => by omega⟩) (Nat.lt_succ_self _)
      intro f16
      induction f16 with
      | zero => exact fun _ _ _ _ hf => absurd hf (Nat.not_lt_zero _)
      | succ f16 ih16 =>
        intro is c hc hi hf16
        refine y_iload C 5 dX6_differentDots_16 rfl ?_
        refine y_bipush C dX6_differentDots_18 (by decide +kernel) ?_
        refine y_icmp_ge C 52 dX6_differentDots_20 (by decide) ⟨⟨by omega, by omega⟩, ⟨by omega, by omega⟩⟩ (fun c_2 => ?_) (fun c_2 => ?_)
        · refine y_iload_n C 2 dX6_differentDots_52 rfl ?_
          refine y_iload C 4 dX6_differentDots_53 rfl ?_
          refine y_if_eq C 62 dX6_differentDots_55 (by decide) ⟨by omega, by omega⟩ (fun c_3 => ?_) (fun c_3 => ?_)
          · refine y_iconst C dX6_differentDots_62 ?_
            refine y_iadd C dX6_differentDots_63 ?_
            refine y_istore_n C [(2, .int (zI (n + 0))), (0, .ref y), (1, .int (zI row)), (3, .int (zI v)), (4, .int (zI is)), (5, .int (zI c))] dX6_differentDots_64 (by decide) rfl ?_
            refine y_iinc C 3 [(3, .int (zI (v + 1))), (2, .int (zI (n + 0))), (0, .ref y), (1, .int (zI row)), (4, .int (zI is)), (5, .int (zI c))] dX6_differentDots_65 rfl (by decide) rfl ?_
            refine y_goto C 4 dX6_differentDots_68 (by decide) ?_
            refine y_lsub C [2, 3, 1, 0] (lv' := [(0, .ref y), (1, .int (zI row)), (2, .int (zI (n + 0))), (3, .int (zI (v + 1)))]) rfl ?_
            exact ih4 (n + 0) (v + 1) (by omega) (by refine ⟨?_, by omega, by omega⟩; obtain rfl : c = 32 := (by omega); rcases hi with z | z; (first | (exfalso; omega) | (rw [zcnt_t (by omega) z.2]; omega)); (first | (exfalso; omega) | (rw [zcnt_f (by omega) z.2]; omega))) (by omega)
          · refine y_iconst C dX6_differentDots_58 ?_
            refine y_goto C 63 dX6_differentDots_59 (by decide) ?_
            refine y_iadd C dX6_differentDots_63 ?_
            refine y_istore_n C [(2, .int (zI (n + 1))), (0, .ref y), (1, .int (zI row)), (3, .int (zI v)), (4, .int (zI is)), (5, .int (zI c))] dX6_differentDots_64 (by decide) rfl ?_
            refine y_iinc C 3 [(3, .int (zI (v + 1))), (2, .int (zI (n + 1))), (0, .ref y), (1, .int (zI row)), (4, .int (zI is)), (5, .int (zI c))] dX6_differentDots_65 rfl (by decide) rfl ?_
            refine y_goto C 4 dX6_differentDots_68 (by decide) ?_
            refine y_lsub C [2, 3, 1, 0] (lv' := [(0, .ref y), (1, .int (zI row)), (2, .int (zI (n + 1))), (3, .int (zI (v + 1)))]) rfl ?_
            exact ih4 (n + 1) (v + 1) (by omega) (by refine ⟨?_, by omega, by omega⟩; obtain rfl : c = 32 := (by omega); rcases hi with z | z; (first | (exfalso; omega) | (rw [zcnt_t (by omega) z.2]; omega)); (first | (exfalso; omega) | (rw [zcnt_f (by omega) z.2]; omega))) (by omega)
        · refine y_iload C 4 dX6_differentDots_23 rfl ?_
          refine y_if_ne C 39 dX6_differentDots_25 (by decide) ⟨by omega, by omega⟩ (fun c_4 => ?_) (fun c_4 => ?_)
          · refine y_iconst C dX6_differentDots_39 ?_
            refine y_goto C 44 dX6_differentDots_40 (by decide) ?_
            refine y_istore C [(4, .int (zI 1)), (0, .ref y), (1, .int (zI row)), (2, .int (zI n)), (3, .int (zI v)), (5, .int (zI c))] dX6_differentDots_44 (by decide) rfl ?_
            refine y_iinc C 5 [(5, .int (zI (c + 1))), (4, .int (zI 1)), (0, .ref y), (1, .int (zI row)), (2, .int (zI n)), (3, .int (zI v))] dX6_differentDots_46 rfl (by decide) rfl ?_
            refine y_goto C 16 dX6_differentDots_49 (by decide) ?_
            refine y_lsub C [2, 3, 4, 5, 1, 0] (lv' := [(0, .ref y), (1, .int (zI row)), (2, .int (zI n)), (3, .int (zI v)), (4, .int (zI 1)), (5, .int (zI (c + 1)))]) rfl ?_
            exact ih16 1 (c + 1) (by omega) (by rcases hi with ⟨i1, k, a, b, z⟩ | ⟨i1, i2⟩; (first | (exfalso; omega) | exact Or.inl ⟨by omega, k, a, by omega, z⟩); (first | (exfalso; omega) | exact Or.inl ⟨by omega, c, by omega, by omega, by omega⟩ | exact Or.inr ⟨by omega, fun ⟨k, a, b, z⟩ => by rcases (show k < c ∨ k = c from by omega) with e | e; exact i2 ⟨k, a, e, z⟩; subst e; omega⟩)) (by omega)
          · refine y_aload_n C 0 dX6_differentDots_28 rfl ?_
            refine y_iload_n C 1 dX6_differentDots_29 rfl ?_
            refine y_iload C 5 dX6_differentDots_30 rfl ?_
            refine y_pcall C (m_X6_dotOf (l := l) (D := D) (cA := cA) (cB := cB) (y := y) (ms := ms) (ma := ma) (mp := mp) (mk := mk) (md := md) (me := me) (mo := mo) (np := np) (ik := ik) (ml := ml) (sp := sp) (wr := wr) (tp := tp) (bt := bt) (lf := lf) (rg := rg) (dp := dp) (u := u) (row := row) (c := c) (by first | assumption | omega | exact ⟨by omega, by omega⟩) (by first | assumption | omega | exact ⟨by omega, by omega⟩) (by first | assumption | omega | exact ⟨by omega, by omega⟩)) lk_X6_56 [0, 1] [] [0, 1] ⟨rfl, rfl, by decide, by decide, by decide⟩ ⟨rfl, by decide⟩ rfl rfl dX6_differentDots_32 rfl rfl ⟨by exact Nat.le_of_ble_eq_true rfl, by exact Nat.le_of_ble_eq_true rfl, rfl, rfl, by exact Nat.le_of_ble_eq_true rfl, by exact Nat.le_of_ble_eq_true rfl, by exact Nat.le_of_ble_eq_true rfl⟩ (fun r_6 h_5 => ?_)
            have hd := (h_5).1
            refine y_iload_n C 3 dX6_differentDots_35 rfl ?_
            refine y_icmp_ne C 43 dX6_differentDots_36 (by decide) ⟨⟨by omega, by omega⟩, ⟨by omega, by omega⟩⟩ (fun c_7 => ?_) (fun c_7 => ?_)
            · refine y_iconst C dX6_differentDots_43 ?_
              refine y_istore C [(4, .int (zI 0)), (0, .ref y), (1, .int (zI row)), (2, .int (zI n)), (3, .int (zI v)), (5, .int (zI c))] dX6_differentDots_44 (by decide) rfl ?_
              refine y_iinc C 5 [(5, .int (zI (c + 1))), (4, .int (zI 0)), (0, .ref y), (1, .int (zI row)), (2, .int (zI n)), (3, .int (zI v))] dX6_differentDots_46 rfl (by decide) rfl ?_
              refine y_goto C 16 dX6_differentDots_49 (by decide) ?_
              refine y_lsub C [2, 3, 4, 5, 1, 0] (lv' := [(0, .ref y), (1, .int (zI row)), (2, .int (zI n)), (3, .int (zI v)), (4, .int (zI 0)), (5, .int (zI (c + 1)))]) rfl ?_
              exact ih16 0 (c + 1) (by omega) (by rcases hi with ⟨i1, k, a, b, z⟩ | ⟨i1, i2⟩; (first | (exfalso; omega) | exact Or.inl ⟨by omega, k, a, by omega, z⟩); (first | (exfalso; omega) | exact Or.inl ⟨by omega, c, by omega, by omega, by omega⟩ | exact Or.inr ⟨by omega, fun ⟨k, a, b, z⟩ => by rcases (show k < c ∨ k = c from by omega) with e | e; exact i2 ⟨k, a, e, z⟩; subst e; omega⟩)) (by omega)
            · refine y_iconst C dX6_differentDots_39 ?_
              refine y_goto C 44 dX6_differentDots_40 (by decide) ?_
              refine y_istore C [(4, .int (zI 1)), (0, .ref y), (1, .int (zI row)), (2, .int (zI n)), (3, .int (zI v)), (5, .int (zI c))] dX6_differentDots_44 (by decide) rfl ?_
              refine y_iinc C 5 [(5, .int (zI (c + 1))), (4, .int (zI 1)), (0, .ref y), (1, .int (zI row)), (2, .int (zI n)), (3, .int (zI v))] dX6_differentDots_46 rfl (by decide) rfl ?_
              refine y_goto C 16 dX6_differentDots_49 (by decide) ?_
              refine y_lsub C [2, 3, 4, 5, 1, 0] (lv' := [(0, .ref y), (1, .int (zI row)), (2, .int (zI n)), (3, .int (zI v)), (4, .int (zI 1)), (5, .int (zI (c + 1)))]) rfl ?_
              exact ih16 1 (c + 1) (by omega) (by rcases hi with ⟨i1, k, a, b, z⟩ | ⟨i1, i2⟩; (first | (exfalso; omega) | exact Or.inl ⟨by omega, k, a, by omega, z⟩); (first | (exfalso; omega) | exact Or.inl ⟨by omega, c, by omega, by omega, by omega⟩ | exact Or.inr ⟨by omega, fun ⟨k, a, b, z⟩ => by rcases (show k < c ∨ k = c from by omega) with e | e; exact i2 ⟨k, a, e, z⟩; subst e; omega⟩)) (by omega)

set_option maxHeartbeats 4000000 in
set_option maxRecDepth 100000 in
theorem m_X6_turnsOfPlane {l : Launch} {D : va_G} {cA cB : ClassId} {y ms ma mp mk md me mo : Nat} {np ik ml sp wr tp bt lf rg dp : Int} {u sn : Int → Int} {row : Int} (hrow : 0 ≤ row ∧ row < 8) (hU : UK u) : MI l yX6_turnsOfPlane cX6_turnsOfPlane 5 .int { frames := 5, cells := 0, slots := 0, locals := 121 } D (zT cA cB) [.ref y, .int (zI row)] [cO y 6 [.ref ms, .ref ma, .ref mp, .int (zI np), .ref mk, .int (zI ik), .ref md, .int (zI ml), .ref me, .ref mo, .int (zI sp), .int (zI wr), .int (zI tp), .int (zI bt), .int (zI lf), .int (zI rg), .int (zI dp)], cI cA ms 800 u, cI cA me 32 sn] (fun r w => ∃ (sn2 : Int → Int), w = [cO y 6 [.ref ms, .ref ma, .ref mp, .int (zI np), .ref mk, .int (zI ik), .ref md, .int (zI ml), .ref me, .ref mo, .int (zI sp), .int (zI wr), .int (zI tp), .int (zI bt), .int (zI lf), .int (zI rg), .int (zI dp)], cI cA ms 800 u, cI cA me 32 sn2] ∧ (r = zcnt (chgP (seeR u row)) 32 ∧ 0 ≤ r ∧ r ≤ 32)) := by
  refine MI.of RX6 ⟨rfl, by decide +kernel⟩ (Or.inl rfl) (Nat.le_of_ble_eq_true rfl) (fun h => by cases h) ?_
  intro K C hret
  change K 0 0 _ [(0, .ref y), (1, .int (zI row))] 0 []
  refine y_aload_n C 0 dX6_turnsOfPlane_0 rfl ?_
  refine y_iload_n C 1 dX6_turnsOfPlane_1 rfl ?_
  refine y_mcallv C (m_X6_looks (l := l) (D := D) (cA := cA) (cB := cB) (y := y) (ms := ms) (ma := ma) (mp := mp) (mk := mk) (md := md) (me := me) (mo := mo) (np := np) (ik := ik) (ml := ml) (sp := sp) (wr := wr) (tp := tp) (bt := bt) (lf := lf) (rg := rg) (dp := dp) (u := u) (sn := sn) (row := row) (by first | assumption | omega | exact ⟨by omega, by omega⟩) (by first | assumption | omega | exact ⟨by omega, by omega⟩)) lk_X6_66 [0, 1, 2] [] ⟨rfl, rfl, by decide, by decide, by decide⟩ (jb := 0) rfl rfl dX6_turnsOfPlane_2 rfl rfl ⟨by exact Nat.le_of_ble_eq_true rfl, by exact Nat.le_of_ble_eq_true rfl, rfl, rfl, by exact Nat.le_of_ble_eq_true rfl, by exact Nat.le_of_ble_eq_true rfl, by exact Nat.le_of_ble_eq_true rfl⟩ (fun w_4 h_1 => ?_)
  obtain ⟨sn2_3, rfl, h_1⟩ := h_1
  refine ⟨[0, 1, 2], [cO y 6 [.ref ms, .ref ma, .ref mp, .int (zI np), .ref mk, .int (zI ik), .ref md, .int (zI ml), .ref me, .ref mo, .int (zI sp), .int (zI wr), .int (zI tp), .int (zI bt), .int (zI lf), .int (zI rg), .int (zI dp)], cI cA ms 800 u, cI cA me 32 sn2_3], ⟨rfl, by decide⟩, ?_⟩
  have hl := h_1
  refine y_iconst C dX6_turnsOfPlane_5 ?_
  refine y_istore_n C [(2, .int (zI 0)), (0, .ref y), (1, .int (zI row))] dX6_turnsOfPlane_6 (by decide) rfl ?_
  refine y_iconst C dX6_turnsOfPlane_7 ?_
  refine y_istore_n C [(3, .int (zI (-1))), (2, .int (zI 0)), (0, .ref y), (1, .int (zI row))] dX6_turnsOfPlane_8 (by decide) rfl ?_
  refine y_iconst C dX6_turnsOfPlane_9 ?_
  refine y_istore C [(4, .int (zI 0)), (3, .int (zI (-1))), (2, .int (zI 0)), (0, .ref y), (1, .int (zI row))] dX6_turnsOfPlane_10 (by decide) rfl ?_
  refine y_lsub C [3, 4, 2, 1, 0] (lv' := [(0, .ref y), (1, .int (zI row)), (2, .int (zI 0)), (3, .int (zI (-1))), (4, .int (zI 0))]) rfl ?_
  suffices hL12 : ∀ (fu : Nat) (n : Int) (la : Int) (c : Int), (0 ≤ c ∧ c ≤ 32) → (la = sm1 (lastZ (seeR u row) c)) → (n = zcnt (chgP (seeR u row)) c ∧ 0 ≤ n ∧ n ≤ c) → (32 - c).toNat < fu → K 0 0 [cO y 6 [.ref ms, .ref ma, .ref mp, .int (zI np), .ref mk, .int (zI ik), .ref md, .int (zI ml), .ref me, .ref mo, .int (zI sp), .int (zI wr), .int (zI tp), .int (zI bt), .int (zI lf), .int (zI rg), .int (zI dp)], cI cA ms 800 u, cI cA me 32 sn2_3] [(0, .ref y), (1, .int (zI row)), (2, .int (zI n)), (3, .int (zI la)), (4, .int (zI c))] 12 [] from hL12 _ 0 (-1) 0 (by omega) (by rfl) (by exact ⟨rfl, by omega, by omega⟩) (Nat.lt_succ_self _)
  intro f12
  induction f12 with
  | zero => exact fun _ _ _ _ _ _ hf => absurd hf (Nat.not_lt_zero _)
  | succ f12 ih12 =>
    intro n la c hc hla hn hf12
    refine y_iload C 4 dX6_turnsOfPlane_12 rfl ?_
    refine y_bipush C dX6_turnsOfPlane_14 (by decide +kernel) ?_
    refine y_icmp_ge C 68 dX6_turnsOfPlane_16 (by decide) ⟨⟨by omega, by omega⟩, ⟨by omega, by omega⟩⟩ (fun c_5 => ?_) (fun c_5 => ?_)
    · refine y_iload_n C 2 dX6_turnsOfPlane_68 rfl ?_
      refine hret _ _ _ _ dX6_turnsOfPlane_69 ⟨sn2_3, rfl, ?_⟩
      show (n = zcnt (chgP (seeR u row)) 32 ∧ 0 ≤ n ∧ n ≤ 32)
      obtain rfl : c = 32 := by omega
      exact hn
    · have e1 := hl c (by omega) (by omega)
      have e2 := sm1_or (seeR_r u row c)
      have e3 := sm1_or (lastZ_r (f := seeR u row) (fun k => seeR_r u row k) c)
      refine y_aload_n C 0 dX6_turnsOfPlane_19 rfl ?_
      refine y_get C fg_X6_25 0 dX6_turnsOfPlane_20 rfl rfl ?_
      refine y_iload C 4 dX6_turnsOfPlane_23 rfl ?_
      refine y_iald C 2 0 dX6_turnsOfPlane_25 rfl rfl ⟨by omega, by omega, by omega⟩ ?_
      refine y_iconst C dX6_turnsOfPlane_26 ?_
      refine y_icmp_eq C 62 dX6_turnsOfPlane_27 (by decide) ⟨⟨by omega, by omega⟩, ⟨by omega, by omega⟩⟩ (fun c_6 => ?_) (fun c_6 => ?_)
      · refine y_iinc C 4 [(4, .int (zI (c + 1))), (0, .ref y), (1, .int (zI row)), (2, .int (zI n)), (3, .int (zI la))] dX6_turnsOfPlane_62 rfl (by decide) rfl ?_
        refine y_goto C 12 dX6_turnsOfPlane_65 (by decide) ?_
        refine y_lsub C [1, 2, 3, 4, 0] (lv' := [(0, .ref y), (1, .int (zI row)), (2, .int (zI n)), (3, .int (zI la)), (4, .int (zI (c + 1)))]) rfl ?_
        exact ih12 n la (c + 1) (by omega) (by rw [lastZ_s _ (by omega)]; first | (rw [if_pos (by omega)]; exact hla) | (rw [if_neg (by omega)]; exact hl c (by omega) (by omega))) (by refine ⟨?_, by omega, by omega⟩; exact zcnt_step (by omega) hn.1 (by unfold chgP; omega)) (by omega)
      · refine y_iload_n C 2 dX6_turnsOfPlane_30 rfl ?_
        refine y_iload_n C 3 dX6_turnsOfPlane_31 rfl ?_
        refine y_iconst C dX6_turnsOfPlane_32 ?_
        refine y_icmp_eq C 51 dX6_turnsOfPlane_33 (by decide) ⟨⟨by omega, by omega⟩, ⟨by omega, by omega⟩⟩ (fun c_7 => ?_) (fun c_7 => ?_)
        · refine y_iconst C dX6_turnsOfPlane_51 ?_
          refine y_iadd C dX6_turnsOfPlane_52 ?_
          refine y_istore_n C [(2, .int (zI (n + 0))), (0, .ref y), (1, .int (zI row)), (3, .int (zI la)), (4, .int (zI c))] dX6_turnsOfPlane_53 (by decide) rfl ?_
          refine y_aload_n C 1 dX6_turnsOfPlane_54 rfl ?_
          refine y_get C fg_X6_25 0 dX6_turnsOfPlane_55 rfl rfl ?_
          refine y_iload C 4 dX6_turnsOfPlane_58 rfl ?_
          refine y_iald C 2 0 dX6_turnsOfPlane_60 rfl rfl ⟨by omega, by omega, by omega⟩ ?_
          refine y_istore_n C [(3, .int (zI (sn2_3 c))), (2, .int (zI (n + 0))), (0, .ref y), (1, .int (zI row)), (4, .int (zI c))] dX6_turnsOfPlane_61 (by decide) rfl ?_
          refine y_iinc C 4 [(4, .int (zI (c + 1))), (3, .int (zI (sn2_3 c))), (2, .int (zI (n + 0))), (0, .ref y), (1, .int (zI row))] dX6_turnsOfPlane_62 rfl (by decide) rfl ?_
          refine y_goto C 12 dX6_turnsOfPlane_65 (by decide) ?_
          refine y_lsub C [3, 4, 2, 1, 0] (lv' := [(0, .ref y), (1, .int (zI row)), (2, .int (zI (n + 0))), (3, .int (zI (sn2_3 c))), (4, .int (zI (c + 1)))]) rfl ?_
          exact ih12 (n + 0) (sn2_3 c) (c + 1) (by omega) (by rw [lastZ_s _ (by omega)]; first | (rw [if_pos (by omega)]; exact hla) | (rw [if_neg (by omega)]; exact hl c (by omega) (by omega))) (by refine ⟨?_, by omega, by omega⟩; exact zcnt_step (by omega) hn.1 (by unfold chgP; omega)) (by omega)
        · refine y_iload_n C 3 dX6_turnsOfPlane_36 rfl ?_
          refine y_aload_n C 0 dX6_turnsOfPlane_37 rfl ?_
          refine y_get C fg_X6_25 0 dX6_turnsOfPlane_38 rfl rfl ?_
          refine y_iload C 4 dX6_turnsOfPlane_41 rfl ?_
          refine y_iald C 2 0 dX6_turnsOfPlane_43 rfl rfl ⟨by omega, by omega, by omega⟩ ?_
          refine y_icmp_eq C 51 dX6_turnsOfPlane_44 (by decide) ⟨⟨by omega, by omega⟩, ⟨by omega, by omega⟩⟩ (fun c_8 => ?_) (fun c_8 => ?_)
          · refine y_iconst C dX6_turnsOfPlane_51 ?_
            refine y_iadd C dX6_turnsOfPlane_52 ?_
            refine y_istore_n C [(2, .int (zI (n + 0))), (0, .ref y), (1, .int (zI row)), (3, .int (zI la)), (4, .int (zI c))] dX6_turnsOfPlane_53 (by decide) rfl ?_
            refine y_aload_n C 1 dX6_turnsOfPlane_54 rfl ?_
            refine y_get C fg_X6_25 0 dX6_turnsOfPlane_55 rfl rfl ?_
            refine y_iload C 4 dX6_turnsOfPlane_58 rfl ?_
            refine y_iald C 2 0 dX6_turnsOfPlane_60 rfl rfl ⟨by omega, by omega, by omega⟩ ?_
            refine y_istore_n C [(3, .int (zI (sn2_3 c))), (2, .int (zI (n + 0))), (0, .ref y), (1, .int (zI row)), (4, .int (zI c))] dX6_turnsOfPlane_61 (by decide) rfl ?_
            refine y_iinc C 4 [(4, .int (zI (c + 1))), (3, .int (zI (sn2_3 c))), (2, .int (zI (n + 0))), (0, .ref y), (1, .int (zI row))] dX6_turnsOfPlane_62 rfl (by decide) rfl ?_
            refine y_goto C 12 dX6_turnsOfPlane_65 (by decide) ?_
            refine y_lsub C [3, 4, 2, 1, 0] (lv' := [(0, .ref y), (1, .int (zI row)), (2, .int (zI (n + 0))), (3, .int (zI (sn2_3 c))), (4, .int (zI (c + 1)))]) rfl ?_
            exact ih12 (n + 0) (sn2_3 c) (c + 1) (by omega) (by rw [lastZ_s _ (by omega)]; first | (rw [if_pos (by omega)]; exact hla) | (rw [if_neg (by omega)]; exact hl c (by omega) (by omega))) (by refine ⟨?_, by omega, by omega⟩; exact zcnt_step (by omega) hn.1 (by unfold chgP; omega)) (by omega)
          · refine y_iconst C dX6_turnsOfPlane_47 ?_
            refine y_goto C 52 dX6_turnsOfPlane_48 (by decide) ?_
            refine y_iadd C dX6_turnsOfPlane_52 ?_
            refine y_istore_n C [(2, .int (zI (n + 1))), (0, .ref y), (1, .int (zI row)), (3, .int (zI la)), (4, .int (zI c))] dX6_turnsOfPlane_53 (by decide) rfl ?_
            refine y_aload_n C 1 dX6_turnsOfPlane_54 rfl ?_
            refine y_get C fg_X6_25 0 dX6_turnsOfPlane_55 rfl rfl ?_
            refine y_iload C 4 dX6_turnsOfPlane_58 rfl ?_
            refine y_iald C 2 0 dX6_turnsOfPlane_60 rfl rfl ⟨by omega, by omega, by omega⟩ ?_
            refine y_istore_n C [(3, .int (zI (sn2_3 c))), (2, .int (zI (n + 1))), (0, .ref y), (1, .int (zI row)), (4, .int (zI c))] dX6_turnsOfPlane_61 (by decide) rfl ?_
            refine y_iinc C 4 [(4, .int (zI (c + 1))), (3, .int (zI (sn2_3 c))), (2, .int (zI (n + 1))), (0, .ref y), (1, .int (zI row))] dX6_turnsOfPlane_62 rfl (by decide) rfl ?_
            refine y_goto C 12 dX6_turnsOfPlane_65 (by decide) ?_
            refine y_lsub C [3, 4, 2, 1, 0] (lv' := [(0, .ref y), (1, .int (zI row)), (2, .int (zI (n + 1))), (3, .int (zI (sn2_3 c))), (4, .int (zI (c + 1)))]) rfl ?_
            exact ih12 (n + 1) (sn2_3 c) (c + 1) (by omega) (by rw [lastZ_s _ (by omega)]; first | (rw [if_pos (by omega)]; exact hla) | (rw [if_neg (by omega)]; exact hl c (by omega) (by omega))) (by refine ⟨?_, by omega, by omega⟩; exact zcnt_step (by omega) hn.1 (by unfold chgP; omega)) (by omega)

set_option maxHeartbeats 4000000 in
set_option maxRecDepth 100000 in
theorem m_X6_row {l : Launch} {D : va_G} {cA cB : ClassId} {y ms ma mp mk md me mo : Nat} {np ik ml sp wr tp bt lf rg dp : Int} {u sn : Int → Int} {row wh : Int} (hzrow : zR row) (hzwh : zR wh) (hU : UK u) : MI l yX6_row cX6_row 3 .int { frames := 6, cells := 0, slots := 0, locals := 145 } D (zT cA cB) [.ref y, .int (zI row), .int (zI wh)] [cO y 6 [.ref ms, .ref ma, .ref mp, .int (zI np), .ref mk, .int (zI ik), .ref md, .int (zI ml), .ref me, .ref mo, .int (zI sp), .int (zI wr), .int (zI tp), .int (zI bt), .int (zI lf), .int (zI rg), .int (zI dp)], cI cA ms 800 u, cI cA me 32 sn] (fun r w => ∃ (sn2 : Int → Int), w = [cO y 6 [.ref ms, .ref ma, .ref mp, .int (zI np), .ref mk, .int (zI ik), .ref md, .int (zI ml), .ref me, .ref mo, .int (zI sp), .int (zI wr), .int (zI tp), .int (zI bt), .int (zI lf), .int (zI rg), .int (zI dp)], cI cA ms 800 u, cI cA me 32 sn2] ∧ (r = ansRow u row wh)) := by
  refine MI.of RX6 ⟨rfl, by decide +kernel⟩ (Or.inl rfl) (Nat.le_of_ble_eq_true rfl) (fun h => by cases h) ?_
  intro K C hret
  change K 0 0 _ [(0, .ref y), (1, .int (zI row)), (2, .int (zI wh))] 0 []
  have hzrow1 := hzrow.1
  have hzrow2 := hzrow.2
  have hzwh1 := hzwh.1
  have hzwh2 := hzwh.2
  refine y_iload_n C 1 dX6_row_0 rfl ?_
  refine y_pcalls C (m_X6_isRow (l := l) (D := D) (cA := cA) (cB := cB) (xx := row) (by first | assumption | exact ⟨by omega, by omega⟩)) lk_X6_78 [] [0, 1, 2] [0, 1, 2] ⟨rfl, rfl, by decide, by decide, by decide⟩ ⟨rfl, by decide⟩ dX6_row_1 rfl rfl ⟨by exact Nat.le_of_ble_eq_true rfl, by exact Nat.le_of_ble_eq_true rfl, rfl, rfl, by exact Nat.le_of_ble_eq_true rfl, by exact Nat.le_of_ble_eq_true rfl, by exact Nat.le_of_ble_eq_true rfl⟩ (fun r_2 h_1 => ?_)
  refine y_if_eq C 17 dX6_row_4 (by decide) ⟨by omega, by omega⟩ (fun c_3 => ?_) (fun c_3 => ?_)
  · refine y_iconst C dX6_row_17 ?_
    refine hret _ _ _ _ dX6_row_18 ⟨sn, rfl, ?_⟩
    show ((-1) = ansRow u row wh)
    unfold ansRow; rw [if_neg (by omega)]
  · refine y_iload_n C 2 dX6_row_7 rfl ?_
    refine y_iconst C dX6_row_8 ?_
    refine y_bipush C dX6_row_9 (by decide +kernel) ?_
    refine y_pcalls C (m_X6_in (l := l) (D := D) (cA := cA) (cB := cB) (vv := wh) (lo := 0) (hi := 10) (by first | assumption | exact ⟨by omega, by omega⟩) (by first | assumption | exact ⟨by omega, by omega⟩) (by first | assumption | exact ⟨by omega, by omega⟩)) lk_X6_31 [] [0, 1, 2] [0, 1, 2] ⟨rfl, rfl, by decide, by decide, by decide⟩ ⟨rfl, by decide⟩ dX6_row_11 rfl rfl ⟨by exact Nat.le_of_ble_eq_true rfl, by exact Nat.le_of_ble_eq_true rfl, rfl, rfl, by exact Nat.le_of_ble_eq_true rfl, by exact Nat.le_of_ble_eq_true rfl, by exact Nat.le_of_ble_eq_true rfl⟩ (fun r_5 h_4 => ?_)
    refine y_if_ne C 19 dX6_row_14 (by decide) ⟨by omega, by omega⟩ (fun c_6 => ?_) (fun c_6 => ?_)
    · refine y_iload_n C 2 dX6_row_19 rfl ?_
      refine y_bipush C dX6_row_20 (by decide +kernel) ?_
      refine y_icmp_ge C 34 dX6_row_22 (by decide) ⟨⟨by omega, by omega⟩, ⟨by omega, by omega⟩⟩ (fun c_7 => ?_) (fun c_7 => ?_)
      · refine y_iload_n C 2 dX6_row_34 rfl ?_
        refine y_bipush C dX6_row_35 (by decide +kernel) ?_
        refine y_icmp_ne C 48 dX6_row_37 (by decide) ⟨⟨by omega, by omega⟩, ⟨by omega, by omega⟩⟩ (fun c_8 => ?_) (fun c_8 => ?_)
        · refine y_iload_n C 2 dX6_row_48 rfl ?_
          refine y_bipush C dX6_row_49 (by decide +kernel) ?_
          refine y_icmp_ne C 62 dX6_row_51 (by decide) ⟨⟨by omega, by omega⟩, ⟨by omega, by omega⟩⟩ (fun c_9 => ?_) (fun c_9 => ?_)
          · refine y_aload_n C 0 dX6_row_62 rfl ?_
            refine y_iload_n C 1 dX6_row_63 rfl ?_
            refine y_mcalli C (m_X6_turnsOfPlane (l := l) (D := D) (cA := cA) (cB := cB) (y := y) (ms := ms) (ma := ma) (mp := mp) (mk := mk) (md := md) (me := me) (mo := mo) (np := np) (ik := ik) (ml := ml) (sp := sp) (wr := wr) (tp := tp) (bt := bt) (lf := lf) (rg := rg) (dp := dp) (u := u) (sn := sn) (row := row) (by first | assumption | omega | exact ⟨by omega, by omega⟩) (by first | assumption | omega | exact ⟨by omega, by omega⟩)) lk_X6_176 [0, 1, 2] [] ⟨rfl, rfl, by decide, by decide, by decide⟩ (jb := 0) rfl rfl dX6_row_64 rfl rfl ⟨by exact Nat.le_of_ble_eq_true rfl, by exact Nat.le_of_ble_eq_true rfl, rfl, rfl, by exact Nat.le_of_ble_eq_true rfl, by exact Nat.le_of_ble_eq_true rfl, by exact Nat.le_of_ble_eq_true rfl⟩ (fun r_11 w_13 h_10 => ?_)
            obtain ⟨sn2_12, rfl, h_10⟩ := h_10
            refine ⟨[0, 1, 2], [cO y 6 [.ref ms, .ref ma, .ref mp, .int (zI np), .ref mk, .int (zI ik), .ref md, .int (zI ml), .ref me, .ref mo, .int (zI sp), .int (zI wr), .int (zI tp), .int (zI bt), .int (zI lf), .int (zI rg), .int (zI dp)], cI cA ms 800 u, cI cA me 32 sn2_12], ⟨rfl, by decide⟩, ?_⟩
            have hv := (h_10).1
            refine hret _ _ _ _ dX6_row_67 ⟨sn2_12, rfl, ?_⟩
            show (r_11 = ansRow u row wh)
            unfold ansRow rowZ
            rw [if_pos (by omega)]
            first | (rw [if_pos (by omega)]; exact hv) | (rw [if_neg (by omega), if_pos (by omega)]; exact hv) | (rw [if_neg (by omega), if_neg (by omega), if_pos (by omega)]; exact hv) | (rw [if_neg (by omega), if_neg (by omega), if_neg (by omega)]; exact hv)
          · refine y_aload_n C 0 dX6_row_54 rfl ?_
            refine y_iload_n C 1 dX6_row_55 rfl ?_
            refine y_pcall C (m_X6_differentDots (l := l) (D := D) (cA := cA) (cB := cB) (y := y) (ms := ms) (ma := ma) (mp := mp) (mk := mk) (md := md) (me := me) (mo := mo) (np := np) (ik := ik) (ml := ml) (sp := sp) (wr := wr) (tp := tp) (bt := bt) (lf := lf) (rg := rg) (dp := dp) (u := u) (row := row) (by first | assumption | omega | exact ⟨by omega, by omega⟩) (by first | assumption | omega | exact ⟨by omega, by omega⟩)) lk_X6_173 [0, 1] [2] [1, 2, 0] ⟨rfl, rfl, by decide, by decide, by decide⟩ ⟨rfl, by decide⟩ rfl rfl dX6_row_56 rfl rfl ⟨by exact Nat.le_of_ble_eq_true rfl, by exact Nat.le_of_ble_eq_true rfl, rfl, rfl, by exact Nat.le_of_ble_eq_true rfl, by exact Nat.le_of_ble_eq_true rfl, by exact Nat.le_of_ble_eq_true rfl⟩ (fun r_15 h_14 => ?_)
            have hv := (h_14).1
            refine y_goto C 67 dX6_row_59 (by decide) ?_
            refine hret _ _ _ _ dX6_row_67 ⟨sn, rfl, ?_⟩
            show (r_15 = ansRow u row wh)
            unfold ansRow rowZ
            rw [if_pos (by omega)]
            first | (rw [if_pos (by omega)]; exact hv) | (rw [if_neg (by omega), if_pos (by omega)]; exact hv) | (rw [if_neg (by omega), if_neg (by omega), if_pos (by omega)]; exact hv) | (rw [if_neg (by omega), if_neg (by omega), if_neg (by omega)]; exact hv)
        · refine y_aload_n C 0 dX6_row_40 rfl ?_
          refine y_iload_n C 1 dX6_row_41 rfl ?_
          refine y_pcall C (m_X6_longestChain (l := l) (D := D) (cA := cA) (cB := cB) (y := y) (ms := ms) (ma := ma) (mp := mp) (mk := mk) (md := md) (me := me) (mo := mo) (np := np) (ik := ik) (ml := ml) (sp := sp) (wr := wr) (tp := tp) (bt := bt) (lf := lf) (rg := rg) (dp := dp) (u := u) (row := row) (by first | assumption | omega | exact ⟨by omega, by omega⟩) (by first | assumption | omega | exact ⟨by omega, by omega⟩)) lk_X6_170 [0, 1] [2] [1, 2, 0] ⟨rfl, rfl, by decide, by decide, by decide⟩ ⟨rfl, by decide⟩ rfl rfl dX6_row_42 rfl rfl ⟨by exact Nat.le_of_ble_eq_true rfl, by exact Nat.le_of_ble_eq_true rfl, rfl, rfl, by exact Nat.le_of_ble_eq_true rfl, by exact Nat.le_of_ble_eq_true rfl, by exact Nat.le_of_ble_eq_true rfl⟩ (fun r_17 h_16 => ?_)
          have hv := (h_16).1
          refine y_goto C 67 dX6_row_45 (by decide) ?_
          refine hret _ _ _ _ dX6_row_67 ⟨sn, rfl, ?_⟩
          show (r_17 = ansRow u row wh)
          unfold ansRow rowZ
          rw [if_pos (by omega)]
          first | (rw [if_pos (by omega)]; exact hv) | (rw [if_neg (by omega), if_pos (by omega)]; exact hv) | (rw [if_neg (by omega), if_neg (by omega), if_pos (by omega)]; exact hv) | (rw [if_neg (by omega), if_neg (by omega), if_neg (by omega)]; exact hv)
      · refine y_aload_n C 0 dX6_row_25 rfl ?_
        refine y_iload_n C 1 dX6_row_26 rfl ?_
        refine y_iload_n C 2 dX6_row_27 rfl ?_
        refine y_mcalli C (m_X6_many (l := l) (D := D) (cA := cA) (cB := cB) (y := y) (ms := ms) (ma := ma) (mp := mp) (mk := mk) (md := md) (me := me) (mo := mo) (np := np) (ik := ik) (ml := ml) (sp := sp) (wr := wr) (tp := tp) (bt := bt) (lf := lf) (rg := rg) (dp := dp) (u := u) (sn := sn) (row := row) (wh := wh) (by first | assumption | omega | exact ⟨by omega, by omega⟩) (by first | assumption | omega | exact ⟨by omega, by omega⟩) (by first | assumption | omega | exact ⟨by omega, by omega⟩)) lk_X6_167 [0, 1, 2] [] ⟨rfl, rfl, by decide, by decide, by decide⟩ (jb := 0) rfl rfl dX6_row_28 rfl rfl ⟨by exact Nat.le_of_ble_eq_true rfl, by exact Nat.le_of_ble_eq_true rfl, rfl, rfl, by exact Nat.le_of_ble_eq_true rfl, by exact Nat.le_of_ble_eq_true rfl, by exact Nat.le_of_ble_eq_true rfl⟩ (fun r_19 w_21 h_18 => ?_)
        obtain ⟨sn2_20, rfl, h_18⟩ := h_18
        refine ⟨[0, 1, 2], [cO y 6 [.ref ms, .ref ma, .ref mp, .int (zI np), .ref mk, .int (zI ik), .ref md, .int (zI ml), .ref me, .ref mo, .int (zI sp), .int (zI wr), .int (zI tp), .int (zI bt), .int (zI lf), .int (zI rg), .int (zI dp)], cI cA ms 800 u, cI cA me 32 sn2_20], ⟨rfl, by decide⟩, ?_⟩
        have hv := (h_18).1
        refine y_goto C 67 dX6_row_31 (by decide) ?_
        refine hret _ _ _ _ dX6_row_67 ⟨sn2_20, rfl, ?_⟩
        show (r_19 = ansRow u row wh)
        unfold ansRow rowZ
        rw [if_pos (by omega)]
        first | (rw [if_pos (by omega)]; exact hv) | (rw [if_neg (by omega), if_pos (by omega)]; exact hv) | (rw [if_neg (by omega), if_neg (by omega), if_pos (by omega)]; exact hv) | (rw [if_neg (by omega), if_neg (by omega), if_neg (by omega)]; exact hv)
    · refine y_iconst C dX6_row_17 ?_
      refine hret _ _ _ _ dX6_row_18 ⟨sn, rfl, ?_⟩
      show ((-1) = ansRow u row wh)
      unfold ansRow; rw [if_neg (by omega)]

set_option maxHeartbeats 4000000 in
set_option maxRecDepth 100000 in
theorem m_X6_at {l : Launch} {D : va_G} {cA cB : ClassId} {y ms ma mp mk md me mo : Nat} {np ik ml sp wr tp bt lf rg dp : Int} {u sn : Int → Int} {row col wh : Int} (hzrow : zR row) (hzcol : zR col) (hzwh : zR wh) (hU : UK u) : MI l yX6_at cX6_at 4 .int { frames := 5, cells := 0, slots := 0, locals := 121 } D (zT cA cB) [.ref y, .int (zI row), .int (zI col), .int (zI wh)] [cO y 6 [.ref ms, .ref ma, .ref mp, .int (zI np), .ref mk, .int (zI ik), .ref md, .int (zI ml), .ref me, .ref mo, .int (zI sp), .int (zI wr), .int (zI tp), .int (zI bt), .int (zI lf), .int (zI rg), .int (zI dp)], cI cA ms 800 u, cI cA me 32 sn] (fun r w => ∃ (sn2 : Int → Int), w = [cO y 6 [.ref ms, .ref ma, .ref mp, .int (zI np), .ref mk, .int (zI ik), .ref md, .int (zI ml), .ref me, .ref mo, .int (zI sp), .int (zI wr), .int (zI tp), .int (zI bt), .int (zI lf), .int (zI rg), .int (zI dp)], cI cA ms 800 u, cI cA me 32 sn2] ∧ (r = ansAt u row col wh)) := by
  refine MI.of RX6 ⟨rfl, by decide +kernel⟩ (Or.inl rfl) (Nat.le_of_ble_eq_true rfl) (fun h => by cases h) ?_
  intro K C hret
  change K 0 0 _ [(0, .ref y), (1, .int (zI row)), (2, .int (zI col)), (3, .int (zI wh))] 0 []
  have hzrow1 := hzrow.1
  have hzrow2 := hzrow.2
  have hzcol1 := hzcol.1
  have hzcol2 := hzcol.2
  have hzwh1 := hzwh.1
  have hzwh2 := hzwh.2
  have huk := hU.k
  refine y_iload_n C 1 dX6_at_0 rfl ?_
  refine y_pcalls C (m_X6_isRow (l := l) (D := D) (cA := cA) (cB := cB) (xx := row) (by first | assumption | exact ⟨by omega, by omega⟩)) lk_X6_78 [] [0, 1, 2] [0, 1, 2] ⟨rfl, rfl, by decide, by decide, by decide⟩ ⟨rfl, by decide⟩ dX6_at_1 rfl rfl ⟨by exact Nat.le_of_ble_eq_true rfl, by exact Nat.le_of_ble_eq_true rfl, rfl, rfl, by exact Nat.le_of_ble_eq_true rfl, by exact Nat.le_of_ble_eq_true rfl, by exact Nat.le_of_ble_eq_true rfl⟩ (fun r_2 h_1 => ?_)
  refine y_if_eq C 14 dX6_at_4 (by decide) ⟨by omega, by omega⟩ (fun c_3 => ?_) (fun c_3 => ?_)
  · refine y_iconst C dX6_at_14 ?_
    refine hret _ _ _ _ dX6_at_15 ⟨sn, rfl, ?_⟩
    show ((-1) = ansAt u row col wh)
    unfold ansAt; rw [if_neg (by omega)]
  · refine y_iload_n C 2 dX6_at_7 rfl ?_
    refine y_pcalls C (m_X6_isColumn (l := l) (D := D) (cA := cA) (cB := cB) (xx := col) (by first | assumption | exact ⟨by omega, by omega⟩)) lk_X6_52 [] [0, 1, 2] [0, 1, 2] ⟨rfl, rfl, by decide, by decide, by decide⟩ ⟨rfl, by decide⟩ dX6_at_8 rfl rfl ⟨by exact Nat.le_of_ble_eq_true rfl, by exact Nat.le_of_ble_eq_true rfl, rfl, rfl, by exact Nat.le_of_ble_eq_true rfl, by exact Nat.le_of_ble_eq_true rfl, by exact Nat.le_of_ble_eq_true rfl⟩ (fun r_5 h_4 => ?_)
    refine y_if_ne C 16 dX6_at_11 (by decide) ⟨by omega, by omega⟩ (fun c_6 => ?_) (fun c_6 => ?_)
    · refine y_iload_n C 3 dX6_at_16 rfl ?_
      rcases (show wh = 0 ∨ wh = 1 ∨ wh = 2 ∨ wh = 3 ∨ wh = 4 ∨ wh = 5 ∨ wh = 6 ∨ wh = 7 ∨ (wh < 0 ∨ 7 < wh) from by omega) with s_7 | s_7 | s_7 | s_7 | s_7 | s_7 | s_7 | s_7 | s_7
      · refine y_tin C 64 0 dX6_at_17 ⟨by omega, by omega⟩ ⟨by omega, by omega⟩ (by omega) rfl (by decide) ?_
        refine y_aload_n C 0 dX6_at_64 rfl ?_
        refine y_iload_n C 1 dX6_at_65 rfl ?_
        refine y_iload_n C 2 dX6_at_66 rfl ?_
        refine y_pcall C (m_X6_planeOf (l := l) (D := D) (cA := cA) (cB := cB) (y := y) (ms := ms) (ma := ma) (mp := mp) (mk := mk) (md := md) (me := me) (mo := mo) (np := np) (ik := ik) (ml := ml) (sp := sp) (wr := wr) (tp := tp) (bt := bt) (lf := lf) (rg := rg) (dp := dp) (u := u) (row := row) (c := col) (by first | assumption | omega | exact ⟨by omega, by omega⟩) (by first | assumption | omega | exact ⟨by omega, by omega⟩) (by first | assumption | omega | exact ⟨by omega, by omega⟩)) lk_X6_43 [0, 1] [2] [1, 2, 0] ⟨rfl, rfl, by decide, by decide, by decide⟩ ⟨rfl, by decide⟩ rfl rfl dX6_at_67 rfl rfl ⟨by exact Nat.le_of_ble_eq_true rfl, by exact Nat.le_of_ble_eq_true rfl, rfl, rfl, by exact Nat.le_of_ble_eq_true rfl, by exact Nat.le_of_ble_eq_true rfl, by exact Nat.le_of_ble_eq_true rfl⟩ (fun r_9 h_8 => ?_)
        have hv := (h_8).1
        refine hret _ _ _ _ dX6_at_70 ⟨sn, rfl, ?_⟩
        show (r_9 = ansAt u row col wh)
        unfold ansAt atZ
        rw [if_pos (by omega)]
        (repeat' split) <;> first | (exfalso; omega) | exact hv | omega | (unfold sm1 at hl; split at hl <;> omega)
      · refine y_tin C 71 1 dX6_at_17 ⟨by omega, by omega⟩ ⟨by omega, by omega⟩ (by omega) rfl (by decide) ?_
        refine y_aload_n C 0 dX6_at_71 rfl ?_
        refine y_iload_n C 1 dX6_at_72 rfl ?_
        refine y_iload_n C 2 dX6_at_73 rfl ?_
        refine y_pcall C (m_X6_dotOf (l := l) (D := D) (cA := cA) (cB := cB) (y := y) (ms := ms) (ma := ma) (mp := mp) (mk := mk) (md := md) (me := me) (mo := mo) (np := np) (ik := ik) (ml := ml) (sp := sp) (wr := wr) (tp := tp) (bt := bt) (lf := lf) (rg := rg) (dp := dp) (u := u) (row := row) (c := col) (by first | assumption | omega | exact ⟨by omega, by omega⟩) (by first | assumption | omega | exact ⟨by omega, by omega⟩) (by first | assumption | omega | exact ⟨by omega, by omega⟩)) lk_X6_56 [0, 1] [2] [1, 2, 0] ⟨rfl, rfl, by decide, by decide, by decide⟩ ⟨rfl, by decide⟩ rfl rfl dX6_at_74 rfl rfl ⟨by exact Nat.le_of_ble_eq_true rfl, by exact Nat.le_of_ble_eq_true rfl, rfl, rfl, by exact Nat.le_of_ble_eq_true rfl, by exact Nat.le_of_ble_eq_true rfl, by exact Nat.le_of_ble_eq_true rfl⟩ (fun r_11 h_10 => ?_)
        have hv := (h_10).1
        refine hret _ _ _ _ dX6_at_77 ⟨sn, rfl, ?_⟩
        show (r_11 = ansAt u row col wh)
        unfold ansAt atZ
        rw [if_pos (by omega)]
        (repeat' split) <;> first | (exfalso; omega) | exact hv | omega | (unfold sm1 at hl; split at hl <;> omega)
      · refine y_tin C 78 2 dX6_at_17 ⟨by omega, by omega⟩ ⟨by omega, by omega⟩ (by omega) rfl (by decide) ?_
        refine y_aload_n C 0 dX6_at_78 rfl ?_
        refine y_iload_n C 1 dX6_at_79 rfl ?_
        refine y_mcallv C (m_X6_looks (l := l) (D := D) (cA := cA) (cB := cB) (y := y) (ms := ms) (ma := ma) (mp := mp) (mk := mk) (md := md) (me := me) (mo := mo) (np := np) (ik := ik) (ml := ml) (sp := sp) (wr := wr) (tp := tp) (bt := bt) (lf := lf) (rg := rg) (dp := dp) (u := u) (sn := sn) (row := row) (by first | assumption | omega | exact ⟨by omega, by omega⟩) (by first | assumption | omega | exact ⟨by omega, by omega⟩)) lk_X6_66 [0, 1, 2] [] ⟨rfl, rfl, by decide, by decide, by decide⟩ (jb := 0) rfl rfl dX6_at_80 rfl rfl ⟨by exact Nat.le_of_ble_eq_true rfl, by exact Nat.le_of_ble_eq_true rfl, rfl, rfl, by exact Nat.le_of_ble_eq_true rfl, by exact Nat.le_of_ble_eq_true rfl, by exact Nat.le_of_ble_eq_true rfl⟩ (fun w_15 h_12 => ?_)
        obtain ⟨sn2_14, rfl, h_12⟩ := h_12
        refine ⟨[0, 1, 2], [cO y 6 [.ref ms, .ref ma, .ref mp, .int (zI np), .ref mk, .int (zI ik), .ref md, .int (zI ml), .ref me, .ref mo, .int (zI sp), .int (zI wr), .int (zI tp), .int (zI bt), .int (zI lf), .int (zI rg), .int (zI dp)], cI cA ms 800 u, cI cA me 32 sn2_14], ⟨rfl, by decide⟩, ?_⟩
        have hl := h_12 col (by omega) (by omega)
        have hsr := seeR_r u row col
        have hs4 := sm1_r hsr
        refine y_aload_n C 0 dX6_at_83 rfl ?_
        refine y_get C fg_X6_25 0 dX6_at_84 rfl rfl ?_
        refine y_iload_n C 2 dX6_at_87 rfl ?_
        refine y_iald C 2 0 dX6_at_88 rfl rfl ⟨by omega, by omega, by omega⟩ ?_
        refine y_iconst C dX6_at_89 ?_
        refine y_icmp_ne C 98 dX6_at_90 (by decide) ⟨⟨by omega, by omega⟩, ⟨by omega, by omega⟩⟩ (fun c_16 => ?_) (fun c_16 => ?_)
        · refine y_aload_n C 0 dX6_at_98 rfl ?_
          refine y_get C fg_X6_25 0 dX6_at_99 rfl rfl ?_
          refine y_iload_n C 2 dX6_at_102 rfl ?_
          refine y_iald C 2 0 dX6_at_103 rfl rfl ⟨by omega, by omega, by omega⟩ ?_
          refine hret _ _ _ _ dX6_at_104 ⟨sn2_14, rfl, ?_⟩
          show ((sn2_14 col) = ansAt u row col wh)
          unfold ansAt atZ
          rw [if_pos (by omega)]
          (repeat' split) <;> first | (exfalso; omega) | exact hv | omega | (unfold sm1 at hl; split at hl <;> omega)
        · refine y_bipush C dX6_at_93 (by decide +kernel) ?_
          refine y_goto C 104 dX6_at_95 (by decide) ?_
          refine hret _ _ _ _ dX6_at_104 ⟨sn2_14, rfl, ?_⟩
          show ((-4) = ansAt u row col wh)
          unfold ansAt atZ
          rw [if_pos (by omega)]
          (repeat' split) <;> first | (exfalso; omega) | exact hv | omega | (unfold sm1 at hl; split at hl <;> omega)
      · refine y_tin C 105 3 dX6_at_17 ⟨by omega, by omega⟩ ⟨by omega, by omega⟩ (by omega) rfl (by decide) ?_
        refine y_aload_n C 0 dX6_at_105 rfl ?_
        refine y_iload_n C 1 dX6_at_106 rfl ?_
        refine y_iload_n C 2 dX6_at_107 rfl ?_
        refine y_pcall C (m_X6_boundTo (l := l) (D := D) (cA := cA) (cB := cB) (y := y) (ms := ms) (ma := ma) (mp := mp) (mk := mk) (md := md) (me := me) (mo := mo) (np := np) (ik := ik) (ml := ml) (sp := sp) (wr := wr) (tp := tp) (bt := bt) (lf := lf) (rg := rg) (dp := dp) (u := u) (row := row) (c := col) (by first | assumption | omega | exact ⟨by omega, by omega⟩) (by first | assumption | omega | exact ⟨by omega, by omega⟩) (by first | assumption | omega | exact ⟨by omega, by omega⟩)) lk_X6_46 [0, 1] [2] [1, 2, 0] ⟨rfl, rfl, by decide, by decide, by decide⟩ ⟨rfl, by decide⟩ rfl rfl dX6_at_108 rfl rfl ⟨by exact Nat.le_of_ble_eq_true rfl, by exact Nat.le_of_ble_eq_true rfl, rfl, rfl, by exact Nat.le_of_ble_eq_true rfl, by exact Nat.le_of_ble_eq_true rfl, by exact Nat.le_of_ble_eq_true rfl⟩ (fun r_18 h_17 => ?_)
        have hb := h_17
        refine y_iconst C dX6_at_111 ?_
        refine y_icmp_ne C 120 dX6_at_112 (by decide) ⟨⟨by omega, by omega⟩, ⟨by omega, by omega⟩⟩ (fun c_19 => ?_) (fun c_19 => ?_)
        · refine y_aload_n C 0 dX6_at_120 rfl ?_
          refine y_iload_n C 1 dX6_at_121 rfl ?_
          refine y_iload_n C 2 dX6_at_122 rfl ?_
          refine y_pcall C (m_X6_boundTo (l := l) (D := D) (cA := cA) (cB := cB) (y := y) (ms := ms) (ma := ma) (mp := mp) (mk := mk) (md := md) (me := me) (mo := mo) (np := np) (ik := ik) (ml := ml) (sp := sp) (wr := wr) (tp := tp) (bt := bt) (lf := lf) (rg := rg) (dp := dp) (u := u) (row := row) (c := col) (by first | assumption | omega | exact ⟨by omega, by omega⟩) (by first | assumption | omega | exact ⟨by omega, by omega⟩) (by first | assumption | omega | exact ⟨by omega, by omega⟩)) lk_X6_46 [0, 1] [2] [1, 2, 0] ⟨rfl, rfl, by decide, by decide, by decide⟩ ⟨rfl, by decide⟩ rfl rfl dX6_at_123 rfl rfl ⟨by exact Nat.le_of_ble_eq_true rfl, by exact Nat.le_of_ble_eq_true rfl, rfl, rfl, by exact Nat.le_of_ble_eq_true rfl, by exact Nat.le_of_ble_eq_true rfl, by exact Nat.le_of_ble_eq_true rfl⟩ (fun r_21 h_20 => ?_)
          have hb2 := h_20
          refine hret _ _ _ _ dX6_at_126 ⟨sn, rfl, ?_⟩
          show (r_21 = ansAt u row col wh)
          unfold ansAt atZ
          rw [if_pos (by omega)]
          (repeat' split) <;> first | (exfalso; omega) | exact hv | omega | (unfold sm1 at hl; split at hl <;> omega)
        · refine y_bipush C dX6_at_115 (by decide +kernel) ?_
          refine y_goto C 126 dX6_at_117 (by decide) ?_
          refine hret _ _ _ _ dX6_at_126 ⟨sn, rfl, ?_⟩
          show ((-4) = ansAt u row col wh)
          unfold ansAt atZ
          rw [if_pos (by omega)]
          (repeat' split) <;> first | (exfalso; omega) | exact hv | omega | (unfold sm1 at hl; split at hl <;> omega)
      · refine y_tin C 127 4 dX6_at_17 ⟨by omega, by omega⟩ ⟨by omega, by omega⟩ (by omega) rfl (by decide) ?_
        refine y_aload_n C 0 dX6_at_127 rfl ?_
        refine y_iload_n C 1 dX6_at_128 rfl ?_
        refine y_iload_n C 2 dX6_at_129 rfl ?_
        refine y_pcall C (m_X6_manyBoundTo (l := l) (D := D) (cA := cA) (cB := cB) (y := y) (ms := ms) (ma := ma) (mp := mp) (mk := mk) (md := md) (me := me) (mo := mo) (np := np) (ik := ik) (ml := ml) (sp := sp) (wr := wr) (tp := tp) (bt := bt) (lf := lf) (rg := rg) (dp := dp) (u := u) (row := row) (c := col) (by first | assumption | omega | exact ⟨by omega, by omega⟩) (by first | assumption | omega | exact ⟨by omega, by omega⟩) (by first | assumption | omega | exact ⟨by omega, by omega⟩)) lk_X6_155 [0, 1] [2] [1, 2, 0] ⟨rfl, rfl, by decide, by decide, by decide⟩ ⟨rfl, by decide⟩ rfl rfl dX6_at_130 rfl rfl ⟨by exact Nat.le_of_ble_eq_true rfl, by exact Nat.le_of_ble_eq_true rfl, rfl, rfl, by exact Nat.le_of_ble_eq_true rfl, by exact Nat.le_of_ble_eq_true rfl, by exact Nat.le_of_ble_eq_true rfl⟩ (fun r_23 h_22 => ?_)
        have hv := (h_22).1
        refine hret _ _ _ _ dX6_at_133 ⟨sn, rfl, ?_⟩
        show (r_23 = ansAt u row col wh)
        unfold ansAt atZ
        rw [if_pos (by omega)]
        (repeat' split) <;> first | (exfalso; omega) | exact hv | omega | (unfold sm1 at hl; split at hl <;> omega)
      · refine y_tin C 134 5 dX6_at_17 ⟨by omega, by omega⟩ ⟨by omega, by omega⟩ (by omega) rfl (by decide) ?_
        refine y_aload_n C 0 dX6_at_134 rfl ?_
        refine y_iload_n C 1 dX6_at_135 rfl ?_
        refine y_iload_n C 2 dX6_at_136 rfl ?_
        refine y_pcall C (m_X6_freeOf (l := l) (D := D) (cA := cA) (cB := cB) (y := y) (ms := ms) (ma := ma) (mp := mp) (mk := mk) (md := md) (me := me) (mo := mo) (np := np) (ik := ik) (ml := ml) (sp := sp) (wr := wr) (tp := tp) (bt := bt) (lf := lf) (rg := rg) (dp := dp) (u := u) (row := row) (c := col) (by first | assumption | omega | exact ⟨by omega, by omega⟩) (by first | assumption | omega | exact ⟨by omega, by omega⟩) (by first | assumption | omega | exact ⟨by omega, by omega⟩)) lk_X6_49 [0, 1] [2] [1, 2, 0] ⟨rfl, rfl, by decide, by decide, by decide⟩ ⟨rfl, by decide⟩ rfl rfl dX6_at_137 rfl rfl ⟨by exact Nat.le_of_ble_eq_true rfl, by exact Nat.le_of_ble_eq_true rfl, rfl, rfl, by exact Nat.le_of_ble_eq_true rfl, by exact Nat.le_of_ble_eq_true rfl, by exact Nat.le_of_ble_eq_true rfl⟩ (fun r_25 h_24 => ?_)
        have hv := (h_24).1
        refine hret _ _ _ _ dX6_at_140 ⟨sn, rfl, ?_⟩
        show (r_25 = ansAt u row col wh)
        unfold ansAt atZ
        rw [if_pos (by omega)]
        (repeat' split) <;> first | (exfalso; omega) | exact hv | omega | (unfold sm1 at hl; split at hl <;> omega)
      · refine y_tin C 141 6 dX6_at_17 ⟨by omega, by omega⟩ ⟨by omega, by omega⟩ (by omega) rfl (by decide) ?_
        refine y_aload_n C 0 dX6_at_141 rfl ?_
        refine y_iload_n C 1 dX6_at_142 rfl ?_
        refine y_iload_n C 2 dX6_at_143 rfl ?_
        refine y_pcall C (m_X6_chain (l := l) (D := D) (cA := cA) (cB := cB) (y := y) (ms := ms) (ma := ma) (mp := mp) (mk := mk) (md := md) (me := me) (mo := mo) (np := np) (ik := ik) (ml := ml) (sp := sp) (wr := wr) (tp := tp) (bt := bt) (lf := lf) (rg := rg) (dp := dp) (u := u) (row := row) (c := col) (by first | assumption | omega | exact ⟨by omega, by omega⟩) (by first | assumption | omega | exact ⟨by omega, by omega⟩) (by first | assumption | omega | exact ⟨by omega, by omega⟩)) lk_X6_158 [0, 1] [2] [1, 2, 0] ⟨rfl, rfl, by decide, by decide, by decide⟩ ⟨rfl, by decide⟩ rfl rfl dX6_at_144 rfl rfl ⟨by exact Nat.le_of_ble_eq_true rfl, by exact Nat.le_of_ble_eq_true rfl, rfl, rfl, by exact Nat.le_of_ble_eq_true rfl, by exact Nat.le_of_ble_eq_true rfl, by exact Nat.le_of_ble_eq_true rfl⟩ (fun r_27 h_26 => ?_)
        have hv := (h_26).1
        refine hret _ _ _ _ dX6_at_147 ⟨sn, rfl, ?_⟩
        show (r_27 = ansAt u row col wh)
        unfold ansAt atZ
        rw [if_pos (by omega)]
        (repeat' split) <;> first | (exfalso; omega) | exact hv | omega | (unfold sm1 at hl; split at hl <;> omega)
      · refine y_tin C 148 7 dX6_at_17 ⟨by omega, by omega⟩ ⟨by omega, by omega⟩ (by omega) rfl (by decide) ?_
        refine y_aload_n C 0 dX6_at_148 rfl ?_
        refine y_get C fg_X6_7 0 dX6_at_149 rfl rfl ?_
        refine y_sipush C dX6_at_152 (by decide +kernel) ?_
        refine y_iload_n C 1 dX6_at_155 rfl ?_
        refine y_iload_n C 2 dX6_at_156 rfl ?_
        refine y_pcalls C (m_X6_place (l := l) (D := D) (cA := cA) (cB := cB) (rr := row) (cc := col) ) lk_X6_35 [] [0, 1, 2] [0, 1, 2] ⟨rfl, rfl, by decide, by decide, by decide⟩ ⟨rfl, by decide⟩ dX6_at_157 rfl rfl ⟨by exact Nat.le_of_ble_eq_true rfl, by exact Nat.le_of_ble_eq_true rfl, rfl, rfl, by exact Nat.le_of_ble_eq_true rfl, by exact Nat.le_of_ble_eq_true rfl, by exact Nat.le_of_ble_eq_true rfl⟩ (fun r_29 h_28 => ?_)
        refine y_iadd C dX6_at_160 ?_
        refine y_top (show (544 + r_29) = (544 + (row * 32 + col)) from by omega) ?_
        have hk0 := zk_0 hU (row := row) (k := col) ⟨by omega, by omega⟩ ⟨by omega, by omega⟩
        have hkk := huk (row * 32 + col) (by omega) (by omega)
        refine y_iald C 1 0 dX6_at_161 rfl rfl ⟨by omega, by omega, by omega⟩ ?_
        refine y_if_ne C 170 dX6_at_162 (by decide) ⟨by omega, by omega⟩ (fun c_30 => ?_) (fun c_30 => ?_)
        · refine y_aload_n C 0 dX6_at_170 rfl ?_
          refine y_get C fg_X6_7 0 dX6_at_171 rfl rfl ?_
          refine y_sipush C dX6_at_174 (by decide +kernel) ?_
          refine y_iload_n C 1 dX6_at_177 rfl ?_
          refine y_iload_n C 2 dX6_at_178 rfl ?_
          refine y_pcalls C (m_X6_place (l := l) (D := D) (cA := cA) (cB := cB) (rr := row) (cc := col) ) lk_X6_35 [] [0, 1, 2] [0, 1, 2] ⟨rfl, rfl, by decide, by decide, by decide⟩ ⟨rfl, by decide⟩ dX6_at_179 rfl rfl ⟨by exact Nat.le_of_ble_eq_true rfl, by exact Nat.le_of_ble_eq_true rfl, rfl, rfl, by exact Nat.le_of_ble_eq_true rfl, by exact Nat.le_of_ble_eq_true rfl, by exact Nat.le_of_ble_eq_true rfl⟩ (fun r_32 h_31 => ?_)
          refine y_iadd C dX6_at_182 ?_
          refine y_top (show (544 + r_32) = (544 + (row * 32 + col)) from by omega) ?_
          refine y_iald C 1 0 dX6_at_183 rfl rfl ⟨by omega, by omega, by omega⟩ ?_
          refine y_iconst C dX6_at_184 ?_
          refine y_isub C dX6_at_185 ?_
          refine hret _ _ _ _ dX6_at_186 ⟨sn, rfl, ?_⟩
          show (((u (544 + (row * 32 + col))) - 1) = ansAt u row col wh)
          unfold ansAt atZ
          rw [if_pos (by omega)]
          (repeat' split) <;> first | (exfalso; omega) | exact hv | omega | (unfold sm1 at hl; split at hl <;> omega)
        · refine y_bipush C dX6_at_165 (by decide +kernel) ?_
          refine y_goto C 186 dX6_at_167 (by decide) ?_
          refine hret _ _ _ _ dX6_at_186 ⟨sn, rfl, ?_⟩
          show ((-4) = ansAt u row col wh)
          unfold ansAt atZ
          rw [if_pos (by omega)]
          (repeat' split) <;> first | (exfalso; omega) | exact hv | omega | (unfold sm1 at hl; split at hl <;> omega)
      · refine y_tout C 187 dX6_at_17 ⟨by omega, by omega⟩ (by omega) (by decide) ?_
        refine y_iconst C dX6_at_187 ?_
        refine hret _ _ _ _ dX6_at_188 ⟨sn, rfl, ?_⟩
        show ((-1) = ansAt u row col wh)
        unfold ansAt; rw [if_neg (by omega)]
    · refine y_iconst C dX6_at_14 ?_
      refine hret _ _ _ _ dX6_at_15 ⟨sn, rfl, ?_⟩
      show ((-1) = ansAt u row col wh)
      unfold ansAt; rw [if_neg (by omega)]

set_option maxHeartbeats 4000000 in
set_option maxRecDepth 100000 in
theorem m_X6_fits {l : Launch} {D : va_G} {cA cB : ClassId} {y ms ma mp mk md me mo : Nat} {np ik ml sp wr tp bt lf rg dp : Int} {u : Int → Int} {row col q : Int} (hzrow : zR row) (hzcol : zR col) (hzq : zR q) (hU : UK u) : MI l yX6_fits cX6_fits 4 .int { frames := 3, cells := 0, slots := 0, locals := 70 } D (zT cA cB) [.ref y, .int (zI row), .int (zI col), .int (zI q)] [cO y 6 [.ref ms, .ref ma, .ref mp, .int (zI np), .ref mk, .int (zI ik), .ref md, .int (zI ml), .ref me, .ref mo, .int (zI sp), .int (zI wr), .int (zI tp), .int (zI bt), .int (zI lf), .int (zI rg), .int (zI dp)], cI cA ms 800 u] (fun r w => w = [cO y 6 [.ref ms, .ref ma, .ref mp, .int (zI np), .ref mk, .int (zI ik), .ref md, .int (zI ml), .ref me, .ref mo, .int (zI sp), .int (zI wr), .int (zI tp), .int (zI bt), .int (zI lf), .int (zI rg), .int (zI dp)], cI cA ms 800 u] ∧ r = ansFits u row col q) := by
  refine MI.of RX6 ⟨rfl, by decide +kernel⟩ (Or.inl rfl) (Nat.le_of_ble_eq_true rfl) (fun h => by cases h) ?_
  intro K C hret
  change K 0 0 _ [(0, .ref y), (1, .int (zI row)), (2, .int (zI col)), (3, .int (zI q))] 0 []
  have hzrow1 := hzrow.1
  have hzrow2 := hzrow.2
  have hzcol1 := hzcol.1
  have hzcol2 := hzcol.2
  have hzq1 := hzq.1
  have hzq2 := hzq.2
  refine y_iload_n C 1 dX6_fits_0 rfl ?_
  refine y_pcalls C (m_X6_isRow (l := l) (D := D) (cA := cA) (cB := cB) (xx := row) (by first | assumption | exact ⟨by omega, by omega⟩)) lk_X6_78 [] [0, 1] [0, 1] ⟨rfl, rfl, by decide, by decide, by decide⟩ ⟨rfl, by decide⟩ dX6_fits_1 rfl rfl ⟨by exact Nat.le_of_ble_eq_true rfl, by exact Nat.le_of_ble_eq_true rfl, rfl, rfl, by exact Nat.le_of_ble_eq_true rfl, by exact Nat.le_of_ble_eq_true rfl, by exact Nat.le_of_ble_eq_true rfl⟩ (fun r_2 h_1 => ?_)
  refine y_if_eq C 23 dX6_fits_4 (by decide) ⟨by omega, by omega⟩ (fun c_3 => ?_) (fun c_3 => ?_)
  · refine y_iconst C dX6_fits_23 ?_
    refine hret _ _ _ _ dX6_fits_24 ⟨rfl, ?_⟩
    show (-1) = ansFits u row col q
    unfold ansFits; rw [if_neg (by omega)]
  · refine y_iload_n C 2 dX6_fits_7 rfl ?_
    refine y_pcalls C (m_X6_isColumn (l := l) (D := D) (cA := cA) (cB := cB) (xx := col) (by first | assumption | exact ⟨by omega, by omega⟩)) lk_X6_52 [] [0, 1] [0, 1] ⟨rfl, rfl, by decide, by decide, by decide⟩ ⟨rfl, by decide⟩ dX6_fits_8 rfl rfl ⟨by exact Nat.le_of_ble_eq_true rfl, by exact Nat.le_of_ble_eq_true rfl, rfl, rfl, by exact Nat.le_of_ble_eq_true rfl, by exact Nat.le_of_ble_eq_true rfl, by exact Nat.le_of_ble_eq_true rfl⟩ (fun r_5 h_4 => ?_)
    refine y_if_eq C 23 dX6_fits_11 (by decide) ⟨by omega, by omega⟩ (fun c_6 => ?_) (fun c_6 => ?_)
    · refine y_iconst C dX6_fits_23 ?_
      refine hret _ _ _ _ dX6_fits_24 ⟨rfl, ?_⟩
      show (-1) = ansFits u row col q
      unfold ansFits; rw [if_neg (by omega)]
    · refine y_iload_n C 3 dX6_fits_14 rfl ?_
      refine y_iconst C dX6_fits_15 ?_
      refine y_iconst C dX6_fits_16 ?_
      refine y_pcalls C (m_X6_in (l := l) (D := D) (cA := cA) (cB := cB) (vv := q) (lo := 0) (hi := 4) (by first | assumption | exact ⟨by omega, by omega⟩) (by first | assumption | exact ⟨by omega, by omega⟩) (by first | assumption | exact ⟨by omega, by omega⟩)) lk_X6_31 [] [0, 1] [0, 1] ⟨rfl, rfl, by decide, by decide, by decide⟩ ⟨rfl, by decide⟩ dX6_fits_17 rfl rfl ⟨by exact Nat.le_of_ble_eq_true rfl, by exact Nat.le_of_ble_eq_true rfl, rfl, rfl, by exact Nat.le_of_ble_eq_true rfl, by exact Nat.le_of_ble_eq_true rfl, by exact Nat.le_of_ble_eq_true rfl⟩ (fun r_8 h_7 => ?_)
      refine y_if_ne C 25 dX6_fits_20 (by decide) ⟨by omega, by omega⟩ (fun c_9 => ?_) (fun c_9 => ?_)
      · refine y_aload_n C 0 dX6_fits_25 rfl ?_
        refine y_iload_n C 1 dX6_fits_26 rfl ?_
        refine y_iload_n C 2 dX6_fits_27 rfl ?_
        refine y_iload_n C 3 dX6_fits_28 rfl ?_
        refine y_pcall C (m_X6_doesFit (l := l) (D := D) (cA := cA) (cB := cB) (y := y) (ms := ms) (ma := ma) (mp := mp) (mk := mk) (md := md) (me := me) (mo := mo) (np := np) (ik := ik) (ml := ml) (sp := sp) (wr := wr) (tp := tp) (bt := bt) (lf := lf) (rg := rg) (dp := dp) (u := u) (row := row) (c := col) (q := q) (by first | assumption | omega | exact ⟨by omega, by omega⟩) (by first | assumption | omega | exact ⟨by omega, by omega⟩) (by first | assumption | omega | exact ⟨by omega, by omega⟩) (by first | assumption | omega | exact ⟨by omega, by omega⟩)) lk_X6_59 [0, 1] [] [0, 1] ⟨rfl, rfl, by decide, by decide, by decide⟩ ⟨rfl, by decide⟩ rfl rfl dX6_fits_29 rfl rfl ⟨by exact Nat.le_of_ble_eq_true rfl, by exact Nat.le_of_ble_eq_true rfl, rfl, rfl, by exact Nat.le_of_ble_eq_true rfl, by exact Nat.le_of_ble_eq_true rfl, by exact Nat.le_of_ble_eq_true rfl⟩ (fun r_11 h_10 => ?_)
        have hf := h_10
        refine y_if_eq C 39 dX6_fits_32 (by decide) ⟨by omega, by omega⟩ (fun c_12 => ?_) (fun c_12 => ?_)
        · refine y_iconst C dX6_fits_39 ?_
          refine hret _ _ _ _ dX6_fits_40 ⟨rfl, ?_⟩
          show 0 = ansFits u row col q
          unfold ansFits
          rw [if_pos (by omega)]
          rcases hf with hf | hf
          · first | exact (bI_t hf.2).symm | (exfalso; omega)
          · first | exact (bI_f hf.2).symm | (exfalso; omega)
        · refine y_iconst C dX6_fits_35 ?_
          refine y_goto C 40 dX6_fits_36 (by decide) ?_
          refine hret _ _ _ _ dX6_fits_40 ⟨rfl, ?_⟩
          show 1 = ansFits u row col q
          unfold ansFits
          rw [if_pos (by omega)]
          rcases hf with hf | hf
          · first | exact (bI_t hf.2).symm | (exfalso; omega)
          · first | exact (bI_f hf.2).symm | (exfalso; omega)
      · refine y_iconst C dX6_fits_23 ?_
        refine hret _ _ _ _ dX6_fits_24 ⟨rfl, ?_⟩
        show (-1) = ansFits u row col q
        unfold ansFits; rw [if_neg (by omega)]

set_option maxHeartbeats 4000000 in
set_option maxRecDepth 100000 in
theorem m_X6_echoes {l : Launch} {D : va_G} {cA cB : ClassId} {y ms ma mp mk md me mo : Nat} {np ik ml sp wr tp bt lf rg dp : Int} {u : Int → Int} {row e : Int} (hrow : 0 ≤ row ∧ row < 8) (he : 2 ≤ e ∧ e ≤ 24) (hU : UK u) : MI l yX6_echoes cX6_echoes 5 .int { frames := 2, cells := 0, slots := 0, locals := 43 } D (zT cA cB) [.ref y, .int (zI row), .int (zI e)] [cO y 6 [.ref ms, .ref ma, .ref mp, .int (zI np), .ref mk, .int (zI ik), .ref md, .int (zI ml), .ref me, .ref mo, .int (zI sp), .int (zI wr), .int (zI tp), .int (zI bt), .int (zI lf), .int (zI rg), .int (zI dp)], cI cA ms 800 u] (fun r w => w = [cO y 6 [.ref ms, .ref ma, .ref mp, .int (zI np), .ref mk, .int (zI ik), .ref md, .int (zI ml), .ref me, .ref mo, .int (zI sp), .int (zI wr), .int (zI tp), .int (zI bt), .int (zI lf), .int (zI rg), .int (zI dp)], cI cA ms 800 u] ∧ r = ecZ u row e ∧ 0 ≤ r ∧ r ≤ 32) := by
  refine MI.of RX6 ⟨rfl, by decide +kernel⟩ (Or.inl rfl) (Nat.le_of_ble_eq_true rfl) (fun h => by cases h) ?_
  intro K C hret
  change K 0 0 _ [(0, .ref y), (1, .int (zI row)), (2, .int (zI e))] 0 []
  refine y_iconst C dX6_echoes_0 ?_
  refine y_istore_n C [(3, .int (zI 0)), (0, .ref y), (1, .int (zI row)), (2, .int (zI e))] dX6_echoes_1 (by decide) rfl ?_
  refine y_iload_n C 3 dX6_echoes_2 rfl ?_
  refine y_istore C [(4, .int (zI e)), (3, .int (zI 0)), (0, .ref y), (1, .int (zI row)), (2, .int (zI e))] dX6_echoes_3 (by decide) rfl ?_
  refine y_lsub C [2, 3, 4, 1, 0] (lv' := [(0, .ref y), (1, .int (zI row)), (2, .int (zI e)), (3, .int (zI 0)), (4, .int (zI e))]) rfl ?_
  suffices hL5 : ∀ (fu : Nat) (n : Int) (c : Int), (e ≤ c ∧ c ≤ 32) → (n = zcnt (fun k => e ≤ k ∧ zd u row k = zd u row (k - e)) c ∧ 0 ≤ n ∧ n ≤ c) → (32 - c).toNat < fu → K 0 0 [cO y 6 [.ref ms, .ref ma, .ref mp, .int (zI np), .ref mk, .int (zI ik), .ref md, .int (zI ml), .ref me, .ref mo, .int (zI sp), .int (zI wr), .int (zI tp), .int (zI bt), .int (zI lf), .int (zI rg), .int (zI dp)], cI cA ms 800 u] [(0, .ref y), (1, .int (zI row)), (2, .int (zI e)), (3, .int (zI n)), (4, .int (zI c))] 5 [] from hL5 _ 0 e (by omega) (by refine ⟨(zcnt_none (fun k a b z => by omega)).symm, by omega, by omega⟩) (Nat.lt_succ_self _)
  intro f5
  induction f5 with
  | zero => exact fun _ _ _ _ hf => absurd hf (Nat.not_lt_zero _)
  | succ f5 ih5 =>
    intro n c hc hn hf5
    refine y_iload C 4 dX6_echoes_5 rfl ?_
    refine y_bipush C dX6_echoes_7 (by decide +kernel) ?_
    refine y_icmp_ge C 45 dX6_echoes_9 (by decide) ⟨⟨by omega, by omega⟩, ⟨by omega, by omega⟩⟩ (fun c_1 => ?_) (fun c_1 => ?_)
    · refine y_iload_n C 3 dX6_echoes_45 rfl ?_
      refine hret _ _ _ _ dX6_echoes_46 ⟨rfl, ?_⟩
      show n = ecZ u row e ∧ 0 ≤ n ∧ n ≤ 32
      obtain rfl : c = 32 := by omega
      exact hn
    · refine y_iload_n C 3 dX6_echoes_12 rfl ?_
      refine y_aload_n C 0 dX6_echoes_13 rfl ?_
      refine y_iload_n C 1 dX6_echoes_14 rfl ?_
      refine y_iload C 4 dX6_echoes_15 rfl ?_
      refine y_pcall C (m_X6_dotOf (l := l) (D := D) (cA := cA) (cB := cB) (y := y) (ms := ms) (ma := ma) (mp := mp) (mk := mk) (md := md) (me := me) (mo := mo) (np := np) (ik := ik) (ml := ml) (sp := sp) (wr := wr) (tp := tp) (bt := bt) (lf := lf) (rg := rg) (dp := dp) (u := u) (row := row) (c := c) (by first | assumption | omega | exact ⟨by omega, by omega⟩) (by first | assumption | omega | exact ⟨by omega, by omega⟩) (by first | assumption | omega | exact ⟨by omega, by omega⟩)) lk_X6_56 [0, 1] [] [0, 1] ⟨rfl, rfl, by decide, by decide, by decide⟩ ⟨rfl, by decide⟩ rfl rfl dX6_echoes_17 rfl rfl ⟨by exact Nat.le_of_ble_eq_true rfl, by exact Nat.le_of_ble_eq_true rfl, rfl, rfl, by exact Nat.le_of_ble_eq_true rfl, by exact Nat.le_of_ble_eq_true rfl, by exact Nat.le_of_ble_eq_true rfl⟩ (fun r_3 h_2 => ?_)
      have h1 := h_2
      refine y_aload_n C 0 dX6_echoes_20 rfl ?_
      refine y_iload_n C 1 dX6_echoes_21 rfl ?_
      refine y_iload C 4 dX6_echoes_22 rfl ?_
      refine y_iload_n C 2 dX6_echoes_24 rfl ?_
      refine y_isub C dX6_echoes_25 ?_
      refine y_pcall C (m_X6_dotOf (l := l) (D := D) (cA := cA) (cB := cB) (y := y) (ms := ms) (ma := ma) (mp := mp) (mk := mk) (md := md) (me := me) (mo := mo) (np := np) (ik := ik) (ml := ml) (sp := sp) (wr := wr) (tp := tp) (bt := bt) (lf := lf) (rg := rg) (dp := dp) (u := u) (row := row) (c := c - e) (by first | assumption | omega | exact ⟨by omega, by omega⟩) (by first | assumption | omega | exact ⟨by omega, by omega⟩) (by first | assumption | omega | exact ⟨by omega, by omega⟩)) lk_X6_56 [0, 1] [] [0, 1] ⟨rfl, rfl, by decide, by decide, by decide⟩ ⟨rfl, by decide⟩ rfl rfl dX6_echoes_26 rfl rfl ⟨by exact Nat.le_of_ble_eq_true rfl, by exact Nat.le_of_ble_eq_true rfl, rfl, rfl, by exact Nat.le_of_ble_eq_true rfl, by exact Nat.le_of_ble_eq_true rfl, by exact Nat.le_of_ble_eq_true rfl⟩ (fun r_5 h_4 => ?_)
      have h2 := h_4
      refine y_icmp_ne C 36 dX6_echoes_29 (by decide) ⟨⟨by omega, by omega⟩, ⟨by omega, by omega⟩⟩ (fun c_6 => ?_) (fun c_6 => ?_)
      · refine y_iconst C dX6_echoes_36 ?_
        refine y_iadd C dX6_echoes_37 ?_
        refine y_istore_n C [(3, .int (zI (n + 0))), (0, .ref y), (1, .int (zI row)), (2, .int (zI e)), (4, .int (zI c))] dX6_echoes_38 (by decide) rfl ?_
        refine y_iinc C 4 [(4, .int (zI (c + 1))), (3, .int (zI (n + 0))), (0, .ref y), (1, .int (zI row)), (2, .int (zI e))] dX6_echoes_39 rfl (by decide) rfl ?_
        refine y_goto C 5 dX6_echoes_42 (by decide) ?_
        refine y_lsub C [2, 3, 4, 1, 0] (lv' := [(0, .ref y), (1, .int (zI row)), (2, .int (zI e)), (3, .int (zI (n + 0))), (4, .int (zI (c + 1)))]) rfl ?_
        exact ih5 (n + 0) (c + 1) (by omega) (by refine ⟨?_, by omega, by omega⟩; exact zcnt_step (by omega) hn.1 (by omega)) (by omega)
      · refine y_iconst C dX6_echoes_32 ?_
        refine y_goto C 37 dX6_echoes_33 (by decide) ?_
        refine y_iadd C dX6_echoes_37 ?_
        refine y_istore_n C [(3, .int (zI (n + 1))), (0, .ref y), (1, .int (zI row)), (2, .int (zI e)), (4, .int (zI c))] dX6_echoes_38 (by decide) rfl ?_
        refine y_iinc C 4 [(4, .int (zI (c + 1))), (3, .int (zI (n + 1))), (0, .ref y), (1, .int (zI row)), (2, .int (zI e))] dX6_echoes_39 rfl (by decide) rfl ?_
        refine y_goto C 5 dX6_echoes_42 (by decide) ?_
        refine y_lsub C [2, 3, 4, 1, 0] (lv' := [(0, .ref y), (1, .int (zI row)), (2, .int (zI e)), (3, .int (zI (n + 1))), (4, .int (zI (c + 1)))]) rfl ?_
        exact ih5 (n + 1) (c + 1) (by omega) (by refine ⟨?_, by omega, by omega⟩; exact zcnt_step (by omega) hn.1 (by omega)) (by omega)

set_option maxHeartbeats 4000000 in
set_option maxRecDepth 100000 in
theorem m_X6_echo {l : Launch} {D : va_G} {cA cB : ClassId} {y ms ma mp mk md me mo : Nat} {np ik ml sp wr tp bt lf rg dp : Int} {u : Int → Int} {row e : Int} (hzrow : zR row) (hze : zR e) (hU : UK u) : MI l yX6_echo cX6_echo 3 .int { frames := 3, cells := 0, slots := 0, locals := 67 } D (zT cA cB) [.ref y, .int (zI row), .int (zI e)] [cO y 6 [.ref ms, .ref ma, .ref mp, .int (zI np), .ref mk, .int (zI ik), .ref md, .int (zI ml), .ref me, .ref mo, .int (zI sp), .int (zI wr), .int (zI tp), .int (zI bt), .int (zI lf), .int (zI rg), .int (zI dp)], cI cA ms 800 u] (fun r w => w = [cO y 6 [.ref ms, .ref ma, .ref mp, .int (zI np), .ref mk, .int (zI ik), .ref md, .int (zI ml), .ref me, .ref mo, .int (zI sp), .int (zI wr), .int (zI tp), .int (zI bt), .int (zI lf), .int (zI rg), .int (zI dp)], cI cA ms 800 u] ∧ r = ansEcho u row e) := by
  refine MI.of RX6 ⟨rfl, by decide +kernel⟩ (Or.inl rfl) (Nat.le_of_ble_eq_true rfl) (fun h => by cases h) ?_
  intro K C hret
  change K 0 0 _ [(0, .ref y), (1, .int (zI row)), (2, .int (zI e))] 0 []
  have hzrow1 := hzrow.1
  have hzrow2 := hzrow.2
  have hze1 := hze.1
  have hze2 := hze.2
  refine y_iload_n C 1 dX6_echo_0 rfl ?_
  refine y_pcalls C (m_X6_isRow (l := l) (D := D) (cA := cA) (cB := cB) (xx := row) (by first | assumption | exact ⟨by omega, by omega⟩)) lk_X6_78 [] [0, 1] [0, 1] ⟨rfl, rfl, by decide, by decide, by decide⟩ ⟨rfl, by decide⟩ dX6_echo_1 rfl rfl ⟨by exact Nat.le_of_ble_eq_true rfl, by exact Nat.le_of_ble_eq_true rfl, rfl, rfl, by exact Nat.le_of_ble_eq_true rfl, by exact Nat.le_of_ble_eq_true rfl, by exact Nat.le_of_ble_eq_true rfl⟩ (fun r_2 h_1 => ?_)
  refine y_if_eq C 26 dX6_echo_4 (by decide) ⟨by omega, by omega⟩ (fun c_3 => ?_) (fun c_3 => ?_)
  · refine y_iconst C dX6_echo_26 ?_
    refine hret _ _ _ _ dX6_echo_27 ⟨rfl, ?_⟩
    show (-1) = ansEcho u row e
    unfold ansEcho
    first | (rw [if_neg (by omega)]; done) | (rw [if_pos (by omega)]; exact hv)
  · refine y_iload_n C 2 dX6_echo_7 rfl ?_
    refine y_iconst C dX6_echo_8 ?_
    refine y_bipush C dX6_echo_9 (by decide +kernel) ?_
    refine y_pcalls C (m_X6_in (l := l) (D := D) (cA := cA) (cB := cB) (vv := e) (lo := 2) (hi := 24) (by first | assumption | exact ⟨by omega, by omega⟩) (by first | assumption | exact ⟨by omega, by omega⟩) (by first | assumption | exact ⟨by omega, by omega⟩)) lk_X6_31 [] [0, 1] [0, 1] ⟨rfl, rfl, by decide, by decide, by decide⟩ ⟨rfl, by decide⟩ dX6_echo_11 rfl rfl ⟨by exact Nat.le_of_ble_eq_true rfl, by exact Nat.le_of_ble_eq_true rfl, rfl, rfl, by exact Nat.le_of_ble_eq_true rfl, by exact Nat.le_of_ble_eq_true rfl, by exact Nat.le_of_ble_eq_true rfl⟩ (fun r_5 h_4 => ?_)
    refine y_if_eq C 26 dX6_echo_14 (by decide) ⟨by omega, by omega⟩ (fun c_6 => ?_) (fun c_6 => ?_)
    · refine y_iconst C dX6_echo_26 ?_
      refine hret _ _ _ _ dX6_echo_27 ⟨rfl, ?_⟩
      show (-1) = ansEcho u row e
      unfold ansEcho
      first | (rw [if_neg (by omega)]; done) | (rw [if_pos (by omega)]; exact hv)
    · refine y_aload_n C 0 dX6_echo_17 rfl ?_
      refine y_iload_n C 1 dX6_echo_18 rfl ?_
      refine y_iload_n C 2 dX6_echo_19 rfl ?_
      refine y_pcall C (m_X6_echoes (l := l) (D := D) (cA := cA) (cB := cB) (y := y) (ms := ms) (ma := ma) (mp := mp) (mk := mk) (md := md) (me := me) (mo := mo) (np := np) (ik := ik) (ml := ml) (sp := sp) (wr := wr) (tp := tp) (bt := bt) (lf := lf) (rg := rg) (dp := dp) (u := u) (row := row) (e := e) (by first | assumption | omega | exact ⟨by omega, by omega⟩) (by first | assumption | omega | exact ⟨by omega, by omega⟩) (by first | assumption | omega | exact ⟨by omega, by omega⟩)) lk_X6_179 [0, 1] [] [0, 1] ⟨rfl, rfl, by decide, by decide, by decide⟩ ⟨rfl, by decide⟩ rfl rfl dX6_echo_20 rfl rfl ⟨by exact Nat.le_of_ble_eq_true rfl, by exact Nat.le_of_ble_eq_true rfl, rfl, rfl, by exact Nat.le_of_ble_eq_true rfl, by exact Nat.le_of_ble_eq_true rfl, by exact Nat.le_of_ble_eq_true rfl⟩ (fun r_8 h_7 => ?_)
      have hv := (h_7).1
      refine y_goto C 27 dX6_echo_23 (by decide) ?_
      refine hret _ _ _ _ dX6_echo_27 ⟨rfl, ?_⟩
      show r_8 = ansEcho u row e
      unfold ansEcho
      first | (rw [if_neg (by omega)]; done) | (rw [if_pos (by omega)]; exact hv)

set_option maxHeartbeats 4000000 in
set_option maxRecDepth 100000 in
theorem m_X6_echoAt {l : Launch} {D : va_G} {cA cB : ClassId} {y ms ma mp mk md me mo : Nat} {np ik ml sp wr tp bt lf rg dp : Int} {u : Int → Int} {row pl : Int} (hzrow : zR row) (hzpl : zR pl) (hU : UK u) : MI l yX6_echoAt cX6_echoAt 8 .int { frames := 3, cells := 0, slots := 0, locals := 67 } D (zT cA cB) [.ref y, .int (zI row), .int (zI pl)] [cO y 6 [.ref ms, .ref ma, .ref mp, .int (zI np), .ref mk, .int (zI ik), .ref md, .int (zI ml), .ref me, .ref mo, .int (zI sp), .int (zI wr), .int (zI tp), .int (zI bt), .int (zI lf), .int (zI rg), .int (zI dp)], cI cA ms 800 u] (fun r w => w = [cO y 6 [.ref ms, .ref ma, .ref mp, .int (zI np), .ref mk, .int (zI ik), .ref md, .int (zI ml), .ref me, .ref mo, .int (zI sp), .int (zI wr), .int (zI tp), .int (zI bt), .int (zI lf), .int (zI rg), .int (zI dp)], cI cA ms 800 u] ∧ r = ansEchoAt u row pl) := by
  refine MI.of RX6 ⟨rfl, by decide +kernel⟩ (Or.inl rfl) (Nat.le_of_ble_eq_true rfl) (fun h => by cases h) ?_
  intro K C hret
  change K 0 0 _ [(0, .ref y), (1, .int (zI row)), (2, .int (zI pl))] 0 []
  have hzrow1 := hzrow.1
  have hzrow2 := hzrow.2
  have hzpl1 := hzpl.1
  have hzpl2 := hzpl.2
  refine y_iload_n C 1 dX6_echoAt_0 rfl ?_
  refine y_pcalls C (m_X6_isRow (l := l) (D := D) (cA := cA) (cB := cB) (xx := row) (by first | assumption | exact ⟨by omega, by omega⟩)) lk_X6_78 [] [0, 1] [0, 1] ⟨rfl, rfl, by decide, by decide, by decide⟩ ⟨rfl, by decide⟩ dX6_echoAt_1 rfl rfl ⟨by exact Nat.le_of_ble_eq_true rfl, by exact Nat.le_of_ble_eq_true rfl, rfl, rfl, by exact Nat.le_of_ble_eq_true rfl, by exact Nat.le_of_ble_eq_true rfl, by exact Nat.le_of_ble_eq_true rfl⟩ (fun r_2 h_1 => ?_)
  refine y_if_eq C 17 dX6_echoAt_4 (by decide) ⟨by omega, by omega⟩ (fun c_3 => ?_) (fun c_3 => ?_)
  · refine y_iconst C dX6_echoAt_17 ?_
    refine hret _ _ _ _ dX6_echoAt_18 ⟨rfl, ?_⟩
    show (-1) = ansEchoAt u row pl
    unfold ansEchoAt; rw [if_neg (by omega)]
  · refine y_iload_n C 2 dX6_echoAt_7 rfl ?_
    refine y_iconst C dX6_echoAt_8 ?_
    refine y_bipush C dX6_echoAt_9 (by decide +kernel) ?_
    refine y_pcalls C (m_X6_in (l := l) (D := D) (cA := cA) (cB := cB) (vv := pl) (lo := 0) (hi := 22) (by first | assumption | exact ⟨by omega, by omega⟩) (by first | assumption | exact ⟨by omega, by omega⟩) (by first | assumption | exact ⟨by omega, by omega⟩)) lk_X6_31 [] [0, 1] [0, 1] ⟨rfl, rfl, by decide, by decide, by decide⟩ ⟨rfl, by decide⟩ dX6_echoAt_11 rfl rfl ⟨by exact Nat.le_of_ble_eq_true rfl, by exact Nat.le_of_ble_eq_true rfl, rfl, rfl, by exact Nat.le_of_ble_eq_true rfl, by exact Nat.le_of_ble_eq_true rfl, by exact Nat.le_of_ble_eq_true rfl⟩ (fun r_5 h_4 => ?_)
    refine y_if_ne C 19 dX6_echoAt_14 (by decide) ⟨by omega, by omega⟩ (fun c_6 => ?_) (fun c_6 => ?_)
    · refine y_iconst C dX6_echoAt_19 ?_
      refine y_istore_n C [(3, .int (zI 2)), (0, .ref y), (1, .int (zI row)), (2, .int (zI pl))] dX6_echoAt_20 (by decide) rfl ?_
      refine y_iconst C dX6_echoAt_21 ?_
      refine y_istore C [(4, .int (zI 2)), (3, .int (zI 2)), (0, .ref y), (1, .int (zI row)), (2, .int (zI pl))] dX6_echoAt_22 (by decide) rfl ?_
      refine y_lsub C [2, 3, 4, 1, 0] (lv' := [(0, .ref y), (1, .int (zI row)), (2, .int (zI pl)), (3, .int (zI 2)), (4, .int (zI 2))]) rfl ?_
      suffices hL24 : ∀ (fu : Nat) (found : Int) (re : Int), (2 ≤ re ∧ re ≤ 25) → (2 ≤ found ∧ found ≤ 24) → ((found = 2 ∧ ∀ i : Int, 0 ≤ i → i < re - 2 → ¬ rankZ (ecF u row) 23 i = pl) ∨ (0 ≤ found - 2 ∧ found - 2 < re - 2 ∧ rankZ (ecF u row) 23 (found - 2) = pl)) → (30 - re).toNat < fu → K 0 0 [cO y 6 [.ref ms, .ref ma, .ref mp, .int (zI np), .ref mk, .int (zI ik), .ref md, .int (zI ml), .ref me, .ref mo, .int (zI sp), .int (zI wr), .int (zI tp), .int (zI bt), .int (zI lf), .int (zI rg), .int (zI dp)], cI cA ms 800 u] [(0, .ref y), (1, .int (zI row)), (2, .int (zI pl)), (3, .int (zI found)), (4, .int (zI re))] 24 [] from hL24 _ 2 2 (by omega) (by omega) (by exact Or.inl ⟨rfl, fun i a b => by omega⟩) (Nat.lt_succ_self _)
      intro f24
      induction f24 with
      | zero => exact fun _ _ _ _ _ hf => absurd hf (Nat.not_lt_zero _)
      | succ f24 ih24 =>
        intro found re hre hfr hf hf24
        refine y_iload C 4 dX6_echoAt_24 rfl ?_
        refine y_bipush C dX6_echoAt_26 (by decide +kernel) ?_
        refine y_icmp_ge C 113 dX6_echoAt_28 (by decide) ⟨⟨by omega, by omega⟩, ⟨by omega, by omega⟩⟩ (fun c_7 => ?_) (fun c_7 => ?_)
        · refine y_iload_n C 3 dX6_echoAt_113 rfl ?_
          refine hret _ _ _ _ dX6_echoAt_114 ⟨rfl, ?_⟩
          show found = ansEchoAt u row pl
          unfold ansEchoAt echoAtZ
          rw [if_pos (by omega)]
          obtain rfl : re = 25 := by omega
          rcases hf with ⟨f1, f2⟩ | ⟨f1, f2, f3⟩
          · rw [show pickZ (fun i => ecZ u row (2 + i)) 23 pl = 0 from pickZ_of (f := ecF u row) (Or.inr ⟨rfl, fun i a b => f2 i a (by omega)⟩)]; omega
          · rw [show pickZ (fun i => ecZ u row (2 + i)) 23 pl = found - 2 from pickZ_of (f := ecF u row) (Or.inl ⟨f1, by omega, f3⟩)]; omega
        · refine y_iconst C dX6_echoAt_31 ?_
          refine y_istore C [(5, .int (zI 0)), (0, .ref y), (1, .int (zI row)), (2, .int (zI pl)), (3, .int (zI found)), (4, .int (zI re))] dX6_echoAt_32 (by decide) rfl ?_
          refine y_iconst C dX6_echoAt_34 ?_
          refine y_istore C [(6, .int (zI 2)), (5, .int (zI 0)), (0, .ref y), (1, .int (zI row)), (2, .int (zI pl)), (3, .int (zI found)), (4, .int (zI re))] dX6_echoAt_35 (by decide) rfl ?_
          refine y_lsub C [2, 3, 4, 5, 6, 1, 0] (lv' := [(0, .ref y), (1, .int (zI row)), (2, .int (zI pl)), (3, .int (zI found)), (4, .int (zI re)), (5, .int (zI 0)), (6, .int (zI 2))]) rfl ?_
          suffices hL37 : ∀ (fu : Nat) (ah : Int) (rr : Int), (2 ≤ rr ∧ rr ≤ 25) → (ah = zcnt (befP (ecF u row) (re - 2)) (rr - 2) ∧ 0 ≤ ah ∧ ah ≤ rr - 2) → (30 - rr).toNat < fu → K 0 0 [cO y 6 [.ref ms, .ref ma, .ref mp, .int (zI np), .ref mk, .int (zI ik), .ref md, .int (zI ml), .ref me, .ref mo, .int (zI sp), .int (zI wr), .int (zI tp), .int (zI bt), .int (zI lf), .int (zI rg), .int (zI dp)], cI cA ms 800 u] [(0, .ref y), (1, .int (zI row)), (2, .int (zI pl)), (3, .int (zI found)), (4, .int (zI re)), (5, .int (zI ah)), (6, .int (zI rr))] 37 [] from hL37 _ 0 2 (by omega) (by exact ⟨rfl, by omega, by omega⟩) (Nat.lt_succ_self _)
          intro f37
          induction f37 with
          | zero => exact fun _ _ _ _ hf => absurd hf (Nat.not_lt_zero _)
          | succ f37 ih37 =>
            intro ah rr hrr hah hf37
            refine y_iload C 6 dX6_echoAt_37 rfl ?_
            refine y_bipush C dX6_echoAt_39 (by decide +kernel) ?_
            refine y_icmp_ge C 94 dX6_echoAt_41 (by decide) ⟨⟨by omega, by omega⟩, ⟨by omega, by omega⟩⟩ (fun c_8 => ?_) (fun c_8 => ?_)
            · have hrk : ah = rankZ (ecF u row) 23 (re - 2) := by have z := hah.1; rw [show rr - 2 = 23 by omega] at z; exact z
              refine y_iload C 5 dX6_echoAt_94 rfl ?_
              refine y_iload_n C 2 dX6_echoAt_96 rfl ?_
              refine y_icmp_ne C 105 dX6_echoAt_97 (by decide) ⟨⟨by omega, by omega⟩, ⟨by omega, by omega⟩⟩ (fun c_9 => ?_) (fun c_9 => ?_)
              · refine y_iload_n C 3 dX6_echoAt_105 rfl ?_
                refine y_istore_n C [(3, .int (zI found)), (0, .ref y), (1, .int (zI row)), (2, .int (zI pl)), (4, .int (zI re)), (5, .int (zI ah)), (6, .int (zI rr))] dX6_echoAt_106 (by decide) rfl ?_
                refine y_iinc C 4 [(4, .int (zI (re + 1))), (3, .int (zI found)), (0, .ref y), (1, .int (zI row)), (2, .int (zI pl)), (5, .int (zI ah)), (6, .int (zI rr))] dX6_echoAt_107 rfl (by decide) rfl ?_
                refine y_goto C 24 dX6_echoAt_110 (by decide) ?_
                refine y_lsub C [2, 3, 4, 1, 0] (lv' := [(0, .ref y), (1, .int (zI row)), (2, .int (zI pl)), (3, .int (zI found)), (4, .int (zI (re + 1)))]) rfl ?_
                exact ih24 found (re + 1) (by omega) (by omega) (by rcases hf with ⟨f1, f2⟩ | ⟨f1, f2, f3⟩; (first | exact Or.inr ⟨by omega, by omega, by rw [← hrk]; omega⟩ | exact Or.inl ⟨f1, fun i a b => by rcases (show i < re - 2 ∨ i = re - 2 from by omega) with z | z; exact f2 i a z; rw [z, ← hrk]; omega⟩); (first | exact Or.inr ⟨by omega, by omega, by rw [← hrk]; omega⟩ | exact Or.inr ⟨f1, by omega, f3⟩)) (by omega)
              · refine y_iload C 4 dX6_echoAt_100 rfl ?_
                refine y_goto C 106 dX6_echoAt_102 (by decide) ?_
                refine y_istore_n C [(3, .int (zI re)), (0, .ref y), (1, .int (zI row)), (2, .int (zI pl)), (4, .int (zI re)), (5, .int (zI ah)), (6, .int (zI rr))] dX6_echoAt_106 (by decide) rfl ?_
                refine y_iinc C 4 [(4, .int (zI (re + 1))), (3, .int (zI re)), (0, .ref y), (1, .int (zI row)), (2, .int (zI pl)), (5, .int (zI ah)), (6, .int (zI rr))] dX6_echoAt_107 rfl (by decide) rfl ?_
                refine y_goto C 24 dX6_echoAt_110 (by decide) ?_
                refine y_lsub C [2, 3, 4, 1, 0] (lv' := [(0, .ref y), (1, .int (zI row)), (2, .int (zI pl)), (3, .int (zI re)), (4, .int (zI (re + 1)))]) rfl ?_
                exact ih24 re (re + 1) (by omega) (by omega) (by rcases hf with ⟨f1, f2⟩ | ⟨f1, f2, f3⟩; (first | exact Or.inr ⟨by omega, by omega, by rw [← hrk]; omega⟩ | exact Or.inl ⟨f1, fun i a b => by rcases (show i < re - 2 ∨ i = re - 2 from by omega) with z | z; exact f2 i a z; rw [z, ← hrk]; omega⟩); (first | exact Or.inr ⟨by omega, by omega, by rw [← hrk]; omega⟩ | exact Or.inr ⟨f1, by omega, f3⟩)) (by omega)
            · refine y_aload_n C 0 dX6_echoAt_44 rfl ?_
              refine y_iload_n C 1 dX6_echoAt_45 rfl ?_
              refine y_iload C 6 dX6_echoAt_46 rfl ?_
              refine y_pcall C (m_X6_echoes (l := l) (D := D) (cA := cA) (cB := cB) (y := y) (ms := ms) (ma := ma) (mp := mp) (mk := mk) (md := md) (me := me) (mo := mo) (np := np) (ik := ik) (ml := ml) (sp := sp) (wr := wr) (tp := tp) (bt := bt) (lf := lf) (rg := rg) (dp := dp) (u := u) (row := row) (e := rr) (by first | assumption | omega | exact ⟨by omega, by omega⟩) (by first | assumption | omega | exact ⟨by omega, by omega⟩) (by first | assumption | omega | exact ⟨by omega, by omega⟩)) lk_X6_179 [0, 1] [] [0, 1] ⟨rfl, rfl, by decide, by decide, by decide⟩ ⟨rfl, by decide⟩ rfl rfl dX6_echoAt_48 rfl rfl ⟨by exact Nat.le_of_ble_eq_true rfl, by exact Nat.le_of_ble_eq_true rfl, rfl, rfl, by exact Nat.le_of_ble_eq_true rfl, by exact Nat.le_of_ble_eq_true rfl, by exact Nat.le_of_ble_eq_true rfl⟩ (fun r_11 h_10 => ?_)
              have ea : r_11 = ecF u row (rr - 2) := by rw [ecF_e]; exact (h_10).1
              refine y_aload_n C 0 dX6_echoAt_51 rfl ?_
              refine y_iload_n C 1 dX6_echoAt_52 rfl ?_
              refine y_iload C 4 dX6_echoAt_53 rfl ?_
              refine y_pcall C (m_X6_echoes (l := l) (D := D) (cA := cA) (cB := cB) (y := y) (ms := ms) (ma := ma) (mp := mp) (mk := mk) (md := md) (me := me) (mo := mo) (np := np) (ik := ik) (ml := ml) (sp := sp) (wr := wr) (tp := tp) (bt := bt) (lf := lf) (rg := rg) (dp := dp) (u := u) (row := row) (e := re) (by first | assumption | omega | exact ⟨by omega, by omega⟩) (by first | assumption | omega | exact ⟨by omega, by omega⟩) (by first | assumption | omega | exact ⟨by omega, by omega⟩)) lk_X6_179 [0, 1] [] [0, 1] ⟨rfl, rfl, by decide, by decide, by decide⟩ ⟨rfl, by decide⟩ rfl rfl dX6_echoAt_55 rfl rfl ⟨by exact Nat.le_of_ble_eq_true rfl, by exact Nat.le_of_ble_eq_true rfl, rfl, rfl, by exact Nat.le_of_ble_eq_true rfl, by exact Nat.le_of_ble_eq_true rfl, by exact Nat.le_of_ble_eq_true rfl⟩ (fun r_13 h_12 => ?_)
              have eb : r_13 = ecF u row (re - 2) := by rw [ecF_e]; exact (h_12).1
              refine y_isub C dX6_echoAt_58 ?_
              refine y_istore C [(7, .int (zI (r_11 - r_13))), (0, .ref y), (1, .int (zI row)), (2, .int (zI pl)), (3, .int (zI found)), (4, .int (zI re)), (5, .int (zI ah)), (6, .int (zI rr))] dX6_echoAt_59 (by decide) rfl ?_
              refine y_iload C 6 dX6_echoAt_61 rfl ?_
              refine y_iload C 0 dX6_echoAt_63 rfl ?_
              refine y_if_gt C 80 dX6_echoAt_65 (by decide) ⟨by omega, by omega⟩ (fun c_14 => ?_) (fun c_14 => ?_)
              · refine y_iconst C dX6_echoAt_80 ?_
                refine y_goto C 85 dX6_echoAt_81 (by decide) ?_
                refine y_iadd C dX6_echoAt_85 ?_
                refine y_istore C [(5, .int (zI (ah + 1))), (7, .int (zI (r_11 - r_13))), (0, .ref y), (1, .int (zI row)), (2, .int (zI pl)), (3, .int (zI found)), (4, .int (zI re)), (6, .int (zI rr))] dX6_echoAt_86 (by decide) rfl ?_
                refine y_iinc C 7 [(6, .int (zI (rr + 1))), (5, .int (zI (ah + 1))), (7, .int (zI (r_11 - r_13))), (0, .ref y), (1, .int (zI row)), (2, .int (zI pl)), (3, .int (zI found)), (4, .int (zI re))] dX6_echoAt_88 rfl (by decide) rfl ?_
                refine y_goto C 37 dX6_echoAt_91 (by decide) ?_
                refine y_lsub C [3, 4, 5, 6, 7, 1, 0] (lv' := [(0, .ref y), (1, .int (zI row)), (2, .int (zI pl)), (3, .int (zI found)), (4, .int (zI re)), (5, .int (zI (ah + 1))), (6, .int (zI (rr + 1)))]) rfl ?_
                exact ih37 (ah + 1) (rr + 1) (by omega) (by refine ⟨?_, by omega, by omega⟩; rw [show rr + 1 - 2 = (rr - 2) + 1 by omega]; exact zcnt_step (by omega) hah.1 (by unfold befP; omega)) (by omega)
              · refine y_iload C 0 dX6_echoAt_68 rfl ?_
                refine y_if_ne C 84 dX6_echoAt_70 (by decide) ⟨by omega, by omega⟩ (fun c_15 => ?_) (fun c_15 => ?_)
                · refine y_iconst C dX6_echoAt_84 ?_
                  refine y_iadd C dX6_echoAt_85 ?_
                  refine y_istore C [(5, .int (zI (ah + 0))), (7, .int (zI (r_11 - r_13))), (0, .ref y), (1, .int (zI row)), (2, .int (zI pl)), (3, .int (zI found)), (4, .int (zI re)), (6, .int (zI rr))] dX6_echoAt_86 (by decide) rfl ?_
                  refine y_iinc C 7 [(6, .int (zI (rr + 1))), (5, .int (zI (ah + 0))), (7, .int (zI (r_11 - r_13))), (0, .ref y), (1, .int (zI row)), (2, .int (zI pl)), (3, .int (zI found)), (4, .int (zI re))] dX6_echoAt_88 rfl (by decide) rfl ?_
                  refine y_goto C 37 dX6_echoAt_91 (by decide) ?_
                  refine y_lsub C [3, 4, 5, 6, 7, 1, 0] (lv' := [(0, .ref y), (1, .int (zI row)), (2, .int (zI pl)), (3, .int (zI found)), (4, .int (zI re)), (5, .int (zI (ah + 0))), (6, .int (zI (rr + 1)))]) rfl ?_
                  exact ih37 (ah + 0) (rr + 1) (by omega) (by refine ⟨?_, by omega, by omega⟩; rw [show rr + 1 - 2 = (rr - 2) + 1 by omega]; exact zcnt_step (by omega) hah.1 (by unfold befP; omega)) (by omega)
                · refine y_iload C 7 dX6_echoAt_73 rfl ?_
                  refine y_iload C 5 dX6_echoAt_75 rfl ?_
                  refine y_icmp_ge C 84 dX6_echoAt_77 (by decide) ⟨⟨by omega, by omega⟩, ⟨by omega, by omega⟩⟩ (fun c_16 => ?_) (fun c_16 => ?_)
                  · refine y_iconst C dX6_echoAt_84 ?_
                    refine y_iadd C dX6_echoAt_85 ?_
                    refine y_istore C [(5, .int (zI (ah + 0))), (7, .int (zI (r_11 - r_13))), (0, .ref y), (1, .int (zI row)), (2, .int (zI pl)), (3, .int (zI found)), (4, .int (zI re)), (6, .int (zI rr))] dX6_echoAt_86 (by decide) rfl ?_
                    refine y_iinc C 7 [(6, .int (zI (rr + 1))), (5, .int (zI (ah + 0))), (7, .int (zI (r_11 - r_13))), (0, .ref y), (1, .int (zI row)), (2, .int (zI pl)), (3, .int (zI found)), (4, .int (zI re))] dX6_echoAt_88 rfl (by decide) rfl ?_
                    refine y_goto C 37 dX6_echoAt_91 (by decide) ?_
                    refine y_lsub C [3, 4, 5, 6, 7, 1, 0] (lv' := [(0, .ref y), (1, .int (zI row)), (2, .int (zI pl)), (3, .int (zI found)), (4, .int (zI re)), (5, .int (zI (ah + 0))), (6, .int (zI (rr + 1)))]) rfl ?_
                    exact ih37 (ah + 0) (rr + 1) (by omega) (by refine ⟨?_, by omega, by omega⟩; rw [show rr + 1 - 2 = (rr - 2) + 1 by omega]; exact zcnt_step (by omega) hah.1 (by unfold befP; omega)) (by omega)
                  · refine y_iconst C dX6_echoAt_80 ?_
                    refine y_goto C 85 dX6_echoAt_81 (by decide) ?_
                    refine y_iadd C dX6_echoAt_85 ?_
                    refine y_istore C [(5, .int (zI (ah + 1))), (7, .int (zI (r_11 - r_13))), (0, .ref y), (1, .int (zI row)), (2, .int (zI pl)), (3, .int (zI found)), (4, .int (zI re)), (6, .int (zI rr))] dX6_echoAt_86 (by decide) rfl ?_
                    refine y_iinc C 7 [(6, .int (zI (rr + 1))), (5, .int (zI (ah + 1))), (7, .int (zI (r_11 - r_13))), (0, .ref y), (1, .int (zI row)), (2, .int (zI pl)), (3, .int (zI found)), (4, .int (zI re))] dX6_echoAt_88 rfl (by decide) rfl ?_
                    refine y_goto C 37 dX6_echoAt_91 (by decide) ?_
                    refine y_lsub C [3, 4, 5, 6, 7, 1, 0] (lv' := [(0, .ref y), (1, .int (zI row)), (2, .int (zI pl)), (3, .int (zI found)), (4, .int (zI re)), (5, .int (zI (ah + 1))), (6, .int (zI (rr + 1)))]) rfl ?_
                    exact ih37 (ah + 1) (rr + 1) (by omega) (by refine ⟨?_, by omega, by omega⟩; rw [show rr + 1 - 2 = (rr - 2) + 1 by omega]; exact zcnt_step (by omega) hah.1 (by unfold befP; omega)) (by omega)
    · refine y_iconst C dX6_echoAt_17 ?_
      refine hret _ _ _ _ dX6_echoAt_18 ⟨rfl, ?_⟩
      show (-1) = ansEchoAt u row pl
      unfold ansEchoAt; rw [if_neg (by omega)]

set_option maxHeartbeats 4000000 in
set_option maxRecDepth 100000 in
theorem m_X6_faults {l : Launch} {D : va_G} {cA cB : ClassId} {y ms ma mp mk md me mo : Nat} {np ik ml sp wr tp bt lf rg dp : Int} {u sn : Int → Int} {row : Int} (hrow : 0 ≤ row ∧ row < 8) (hU : UK u) : MI l yX6_faults cX6_faults 3 .int { frames := 6, cells := 0, slots := 0, locals := 145 } D (zT cA cB) [.ref y, .int (zI row)] [cO y 6 [.ref ms, .ref ma, .ref mp, .int (zI np), .ref mk, .int (zI ik), .ref md, .int (zI ml), .ref me, .ref mo, .int (zI sp), .int (zI wr), .int (zI tp), .int (zI bt), .int (zI lf), .int (zI rg), .int (zI dp)], cI cA ms 800 u, cI cA me 32 sn] (fun r w => ∃ (sn2 : Int → Int), w = [cO y 6 [.ref ms, .ref ma, .ref mp, .int (zI np), .ref mk, .int (zI ik), .ref md, .int (zI ml), .ref me, .ref mo, .int (zI sp), .int (zI wr), .int (zI tp), .int (zI bt), .int (zI lf), .int (zI rg), .int (zI dp)], cI cA ms 800 u, cI cA me 32 sn2] ∧ (r = faultZ u row ∧ 0 ≤ r ∧ r ≤ 9000)) := by
  refine MI.of RX6 ⟨rfl, by decide +kernel⟩ (Or.inl rfl) (Nat.le_of_ble_eq_true rfl) (fun h => by cases h) ?_
  intro K C hret
  change K 0 0 _ [(0, .ref y), (1, .int (zI row))] 0 []
  refine y_aload_n C 0 dX6_faults_0 rfl ?_
  refine y_iload_n C 1 dX6_faults_1 rfl ?_
  refine y_bipush C dX6_faults_2 (by decide +kernel) ?_
  refine y_mcalli C (m_X6_many (l := l) (D := D) (cA := cA) (cB := cB) (y := y) (ms := ms) (ma := ma) (mp := mp) (mk := mk) (md := md) (me := me) (mo := mo) (np := np) (ik := ik) (ml := ml) (sp := sp) (wr := wr) (tp := tp) (bt := bt) (lf := lf) (rg := rg) (dp := dp) (u := u) (sn := sn) (row := row) (wh := 6) (by first | assumption | omega | exact ⟨by omega, by omega⟩) (by first | assumption | omega | exact ⟨by omega, by omega⟩) (by first | assumption | omega | exact ⟨by omega, by omega⟩)) lk_X6_167 [0, 1, 2] [] ⟨rfl, rfl, by decide, by decide, by decide⟩ (jb := 0) rfl rfl dX6_faults_4 rfl rfl ⟨by exact Nat.le_of_ble_eq_true rfl, by exact Nat.le_of_ble_eq_true rfl, rfl, rfl, by exact Nat.le_of_ble_eq_true rfl, by exact Nat.le_of_ble_eq_true rfl, by exact Nat.le_of_ble_eq_true rfl⟩ (fun r_2 w_4 h_1 => ?_)
  obtain ⟨sn2_3, rfl, h_1⟩ := h_1
  refine ⟨[0, 1, 2], [cO y 6 [.ref ms, .ref ma, .ref mp, .int (zI np), .ref mk, .int (zI ik), .ref md, .int (zI ml), .ref me, .ref mo, .int (zI sp), .int (zI wr), .int (zI tp), .int (zI bt), .int (zI lf), .int (zI rg), .int (zI dp)], cI cA ms 800 u, cI cA me 32 sn2_3], ⟨rfl, by decide⟩, ?_⟩
  have h6 := h_1
  refine y_istore_n C [(2, .int (zI r_2)), (0, .ref y), (1, .int (zI row))] dX6_faults_7 (by decide) rfl ?_
  refine y_bipush C dX6_faults_8 (by decide +kernel) ?_
  refine y_iload_n C 0 dX6_faults_10 rfl ?_
  refine y_aload_n C 1 dX6_faults_11 rfl ?_
  refine y_iload_n C 2 dX6_faults_12 rfl ?_
  refine y_iconst C dX6_faults_13 ?_
  refine y_mcalli C (m_X6_many (l := l) (D := D) (cA := cA) (cB := cB) (y := y) (ms := ms) (ma := ma) (mp := mp) (mk := mk) (md := md) (me := me) (mo := mo) (np := np) (ik := ik) (ml := ml) (sp := sp) (wr := wr) (tp := tp) (bt := bt) (lf := lf) (rg := rg) (dp := dp) (u := u) (sn := sn2_3) (row := row) (wh := 5) (by first | assumption | omega | exact ⟨by omega, by omega⟩) (by first | assumption | omega | exact ⟨by omega, by omega⟩) (by first | assumption | omega | exact ⟨by omega, by omega⟩)) lk_X6_167 [0, 1, 2] [] ⟨rfl, rfl, by decide, by decide, by decide⟩ (jb := 0) rfl rfl dX6_faults_14 rfl rfl ⟨by exact Nat.le_of_ble_eq_true rfl, by exact Nat.le_of_ble_eq_true rfl, rfl, rfl, by exact Nat.le_of_ble_eq_true rfl, by exact Nat.le_of_ble_eq_true rfl, by exact Nat.le_of_ble_eq_true rfl⟩ (fun r_6 w_8 h_5 => ?_)
  obtain ⟨sn2_7, rfl, h_5⟩ := h_5
  refine ⟨[0, 1, 2], [cO y 6 [.ref ms, .ref ma, .ref mp, .int (zI np), .ref mk, .int (zI ik), .ref md, .int (zI ml), .ref me, .ref mo, .int (zI sp), .int (zI wr), .int (zI tp), .int (zI bt), .int (zI lf), .int (zI rg), .int (zI dp)], cI cA ms 800 u, cI cA me 32 sn2_7], ⟨rfl, by decide⟩, ?_⟩
  have h5 := h_5
  refine y_iadd C dX6_faults_17 ?_
  refine y_imul C dX6_faults_18 ?_
  refine y_iload_n C 0 dX6_faults_19 rfl ?_
  refine y_iadd C dX6_faults_20 ?_
  refine hret _ _ _ _ dX6_faults_21 ⟨sn2_7, rfl, ?_⟩
  show (((100 * (r_2 + r_6)) + r_2) = faultZ u row ∧ 0 ≤ ((100 * (r_2 + r_6)) + r_2) ∧ ((100 * (r_2 + r_6)) + r_2) ≤ 9000)
  rw [kndR_5]; omega

set_option maxHeartbeats 4000000 in
set_option maxRecDepth 100000 in
theorem m_X6_faulty {l : Launch} {D : va_G} {cA cB : ClassId} {y ms ma mp mk md me mo : Nat} {np ik ml sp wr tp bt lf rg dp : Int} {u sn : Int → Int} {pl : Int} (hzpl : zR pl) (hU : UK u) : MI l yX6_faulty cX6_faulty 7 .int { frames := 7, cells := 0, slots := 0, locals := 167 } D (zT cA cB) [.ref y, .int (zI pl)] [cO y 6 [.ref ms, .ref ma, .ref mp, .int (zI np), .ref mk, .int (zI ik), .ref md, .int (zI ml), .ref me, .ref mo, .int (zI sp), .int (zI wr), .int (zI tp), .int (zI bt), .int (zI lf), .int (zI rg), .int (zI dp)], cI cA ms 800 u, cI cA me 32 sn] (fun r w => ∃ (sn2 : Int → Int), w = [cO y 6 [.ref ms, .ref ma, .ref mp, .int (zI np), .ref mk, .int (zI ik), .ref md, .int (zI ml), .ref me, .ref mo, .int (zI sp), .int (zI wr), .int (zI tp), .int (zI bt), .int (zI lf), .int (zI rg), .int (zI dp)], cI cA ms 800 u, cI cA me 32 sn2] ∧ (r = ansFaulty u pl)) := by
  refine MI.of RX6 ⟨rfl, by decide +kernel⟩ (Or.inl rfl) (Nat.le_of_ble_eq_true rfl) (fun h => by cases h) ?_
  intro K C hret
  change K 0 0 _ [(0, .ref y), (1, .int (zI pl))] 0 []
  have hzpl1 := hzpl.1
  have hzpl2 := hzpl.2
  refine y_iload_n C 1 dX6_faulty_0 rfl ?_
  refine y_iconst C dX6_faulty_1 ?_
  refine y_bipush C dX6_faulty_2 (by decide +kernel) ?_
  refine y_pcalls C (m_X6_in (l := l) (D := D) (cA := cA) (cB := cB) (vv := pl) (lo := 0) (hi := 7) (by first | assumption | exact ⟨by omega, by omega⟩) (by first | assumption | exact ⟨by omega, by omega⟩) (by first | assumption | exact ⟨by omega, by omega⟩)) lk_X6_31 [] [0, 1, 2] [0, 1, 2] ⟨rfl, rfl, by decide, by decide, by decide⟩ ⟨rfl, by decide⟩ dX6_faulty_4 rfl rfl ⟨by exact Nat.le_of_ble_eq_true rfl, by exact Nat.le_of_ble_eq_true rfl, rfl, rfl, by exact Nat.le_of_ble_eq_true rfl, by exact Nat.le_of_ble_eq_true rfl, by exact Nat.le_of_ble_eq_true rfl⟩ (fun r_2 h_1 => ?_)
  refine y_if_ne C 12 dX6_faulty_7 (by decide) ⟨by omega, by omega⟩ (fun c_3 => ?_) (fun c_3 => ?_)
  · refine y_iconst C dX6_faulty_12 ?_
    refine y_istore_n C [(2, .int (zI 0)), (0, .ref y), (1, .int (zI pl))] dX6_faulty_13 (by decide) rfl ?_
    refine y_iconst C dX6_faulty_14 ?_
    refine y_istore_n C [(3, .int (zI 0)), (2, .int (zI 0)), (0, .ref y), (1, .int (zI pl))] dX6_faulty_15 (by decide) rfl ?_
    refine y_lsub C [2, 3, 1, 0] (lv' := [(0, .ref y), (1, .int (zI pl)), (2, .int (zI 0)), (3, .int (zI 0))]) rfl ?_
    suffices hL16 : ∀ (fu : Nat) (found : Int) (re : Int) (s1 : Int → Int), (0 ≤ re ∧ re ≤ 8) → (0 ≤ found ∧ found ≤ 7) → ((found = 0 ∧ ∀ i : Int, 0 ≤ i → i < re → ¬ rankZ (faultZ u) 8 i = pl) ∨ (0 ≤ found ∧ found < re ∧ rankZ (faultZ u) 8 (found) = pl)) → (30 - re).toNat < fu → K 0 0 [cO y 6 [.ref ms, .ref ma, .ref mp, .int (zI np), .ref mk, .int (zI ik), .ref md, .int (zI ml), .ref me, .ref mo, .int (zI sp), .int (zI wr), .int (zI tp), .int (zI bt), .int (zI lf), .int (zI rg), .int (zI dp)], cI cA ms 800 u, cI cA me 32 s1] [(0, .ref y), (1, .int (zI pl)), (2, .int (zI found)), (3, .int (zI re))] 16 [] from hL16 _ 0 0 sn (by omega) (by omega) (by exact Or.inl ⟨rfl, fun i a b => by omega⟩) (Nat.lt_succ_self _)
    intro f16
    induction f16 with
    | zero => exact fun _ _ _ _ _ _ hf => absurd hf (Nat.not_lt_zero _)
    | succ f16 ih16 =>
      intro found re s1 hre hfr hf hf16
      refine y_iload_n C 3 dX6_faulty_16 rfl ?_
      refine y_bipush C dX6_faulty_17 (by decide +kernel) ?_
      refine y_icmp_ge C 99 dX6_faulty_19 (by decide) ⟨⟨by omega, by omega⟩, ⟨by omega, by omega⟩⟩ (fun c_4 => ?_) (fun c_4 => ?_)
      · refine y_iload_n C 2 dX6_faulty_99 rfl ?_
        refine hret _ _ _ _ dX6_faulty_100 ⟨s1, rfl, ?_⟩
        show (found = ansFaulty u pl)
        unfold ansFaulty
        rw [if_pos (by omega)]
        obtain rfl : re = 8 := by omega
        rcases hf with ⟨f1, f2⟩ | ⟨f1, f2, f3⟩
        · exact f1.trans (pickZ_of (Or.inr ⟨rfl, f2⟩)).symm
        · exact (pickZ_of (Or.inl ⟨f1, f2, f3⟩)).symm
      · refine y_iconst C dX6_faulty_22 ?_
        refine y_istore C [(4, .int (zI 0)), (0, .ref y), (1, .int (zI pl)), (2, .int (zI found)), (3, .int (zI re))] dX6_faulty_23 (by decide) rfl ?_
        refine y_iconst C dX6_faulty_25 ?_
        refine y_istore C [(5, .int (zI 0)), (4, .int (zI 0)), (0, .ref y), (1, .int (zI pl)), (2, .int (zI found)), (3, .int (zI re))] dX6_faulty_26 (by decide) rfl ?_
        refine y_lsub C [2, 3, 4, 5, 1, 0] (lv' := [(0, .ref y), (1, .int (zI pl)), (2, .int (zI found)), (3, .int (zI re)), (4, .int (zI 0)), (5, .int (zI 0))]) rfl ?_
        suffices hL28 : ∀ (fu : Nat) (ah : Int) (rr : Int) (s3 : Int → Int), (0 ≤ rr ∧ rr ≤ 8) → (ah = zcnt (befP (faultZ u) re) rr ∧ 0 ≤ ah ∧ ah ≤ rr) → (30 - rr).toNat < fu → K 0 0 [cO y 6 [.ref ms, .ref ma, .ref mp, .int (zI np), .ref mk, .int (zI ik), .ref md, .int (zI ml), .ref me, .ref mo, .int (zI sp), .int (zI wr), .int (zI tp), .int (zI bt), .int (zI lf), .int (zI rg), .int (zI dp)], cI cA ms 800 u, cI cA me 32 s3] [(0, .ref y), (1, .int (zI pl)), (2, .int (zI found)), (3, .int (zI re)), (4, .int (zI ah)), (5, .int (zI rr))] 28 [] from hL28 _ 0 0 s1 (by omega) (by exact ⟨rfl, by omega, by omega⟩) (Nat.lt_succ_self _)
        intro f28
        induction f28 with
        | zero => exact fun _ _ _ _ _ hf => absurd hf (Nat.not_lt_zero _)
        | succ f28 ih28 =>
          intro ah rr s3 hrr hah hf28
          refine y_iload C 5 dX6_faulty_28 rfl ?_
          refine y_bipush C dX6_faulty_30 (by decide +kernel) ?_
          refine y_icmp_ge C 81 dX6_faulty_32 (by decide) ⟨⟨by omega, by omega⟩, ⟨by omega, by omega⟩⟩ (fun c_5 => ?_) (fun c_5 => ?_)
          · have hrk : ah = rankZ (faultZ u) 8 re := by have z := hah.1; rw [show rr = 8 by omega] at z; exact z
            refine y_iload C 4 dX6_faulty_81 rfl ?_
            refine y_iload_n C 1 dX6_faulty_83 rfl ?_
            refine y_icmp_ne C 91 dX6_faulty_84 (by decide) ⟨⟨by omega, by omega⟩, ⟨by omega, by omega⟩⟩ (fun c_6 => ?_) (fun c_6 => ?_)
            · refine y_iload_n C 2 dX6_faulty_91 rfl ?_
              refine y_istore_n C [(2, .int (zI found)), (0, .ref y), (1, .int (zI pl)), (3, .int (zI re)), (4, .int (zI ah)), (5, .int (zI rr))] dX6_faulty_92 (by decide) rfl ?_
              refine y_iinc C 3 [(3, .int (zI (re + 1))), (2, .int (zI found)), (0, .ref y), (1, .int (zI pl)), (4, .int (zI ah)), (5, .int (zI rr))] dX6_faulty_93 rfl (by decide) rfl ?_
              refine y_goto C 16 dX6_faulty_96 (by decide) ?_
              refine y_lsub C [2, 3, 1, 0] (lv' := [(0, .ref y), (1, .int (zI pl)), (2, .int (zI found)), (3, .int (zI (re + 1)))]) rfl ?_
              exact ih16 found (re + 1) s3 (by omega) (by omega) (by rcases hf with ⟨f1, f2⟩ | ⟨f1, f2, f3⟩; (first | exact Or.inr ⟨by omega, by omega, by rw [← hrk]; omega⟩ | exact Or.inl ⟨f1, fun i a b => by rcases (show i < re ∨ i = re from by omega) with z | z; exact f2 i a z; rw [z, ← hrk]; omega⟩); (first | exact Or.inr ⟨by omega, by omega, by rw [← hrk]; omega⟩ | exact Or.inr ⟨f1, by omega, f3⟩)) (by omega)
            · refine y_iload_n C 3 dX6_faulty_87 rfl ?_
              refine y_goto C 92 dX6_faulty_88 (by decide) ?_
              refine y_istore_n C [(2, .int (zI re)), (0, .ref y), (1, .int (zI pl)), (3, .int (zI re)), (4, .int (zI ah)), (5, .int (zI rr))] dX6_faulty_92 (by decide) rfl ?_
              refine y_iinc C 3 [(3, .int (zI (re + 1))), (2, .int (zI re)), (0, .ref y), (1, .int (zI pl)), (4, .int (zI ah)), (5, .int (zI rr))] dX6_faulty_93 rfl (by decide) rfl ?_
              refine y_goto C 16 dX6_faulty_96 (by decide) ?_
              refine y_lsub C [2, 3, 1, 0] (lv' := [(0, .ref y), (1, .int (zI pl)), (2, .int (zI re)), (3, .int (zI (re + 1)))]) rfl ?_
              exact ih16 re (re + 1) s3 (by omega) (by omega) (by rcases hf with ⟨f1, f2⟩ | ⟨f1, f2, f3⟩; (first | exact Or.inr ⟨by omega, by omega, by rw [← hrk]; omega⟩ | exact Or.inl ⟨f1, fun i a b => by rcases (show i < re ∨ i = re from by omega) with z | z; exact f2 i a z; rw [z, ← hrk]; omega⟩); (first | exact Or.inr ⟨by omega, by omega, by rw [← hrk]; omega⟩ | exact Or.inr ⟨f1, by omega, f3⟩)) (by omega)
          · refine y_aload_n C 0 dX6_faulty_35 rfl ?_
            refine y_iload C 5 dX6_faulty_36 rfl ?_
            refine y_mcalli C (m_X6_faults (l := l) (D := D) (cA := cA) (cB := cB) (y := y) (ms := ms) (ma := ma) (mp := mp) (mk := mk) (md := md) (me := me) (mo := mo) (np := np) (ik := ik) (ml := ml) (sp := sp) (wr := wr) (tp := tp) (bt := bt) (lf := lf) (rg := rg) (dp := dp) (u := u) (sn := s3) (row := rr) (by first | assumption | omega | exact ⟨by omega, by omega⟩) (by first | assumption | omega | exact ⟨by omega, by omega⟩)) lk_X6_182 [0, 1, 2] [] ⟨rfl, rfl, by decide, by decide, by decide⟩ (jb := 0) rfl rfl dX6_faulty_38 rfl rfl ⟨by exact Nat.le_of_ble_eq_true rfl, by exact Nat.le_of_ble_eq_true rfl, rfl, rfl, by exact Nat.le_of_ble_eq_true rfl, by exact Nat.le_of_ble_eq_true rfl, by exact Nat.le_of_ble_eq_true rfl⟩ (fun r_8 w_10 h_7 => ?_)
            obtain ⟨sn2_9, rfl, h_7⟩ := h_7
            refine ⟨[0, 1, 2], [cO y 6 [.ref ms, .ref ma, .ref mp, .int (zI np), .ref mk, .int (zI ik), .ref md, .int (zI ml), .ref me, .ref mo, .int (zI sp), .int (zI wr), .int (zI tp), .int (zI bt), .int (zI lf), .int (zI rg), .int (zI dp)], cI cA ms 800 u, cI cA me 32 sn2_9], ⟨rfl, by decide⟩, ?_⟩
            have ea := h_7
            refine y_aload_n C 0 dX6_faulty_41 rfl ?_
            refine y_iload_n C 3 dX6_faulty_42 rfl ?_
            refine y_mcalli C (m_X6_faults (l := l) (D := D) (cA := cA) (cB := cB) (y := y) (ms := ms) (ma := ma) (mp := mp) (mk := mk) (md := md) (me := me) (mo := mo) (np := np) (ik := ik) (ml := ml) (sp := sp) (wr := wr) (tp := tp) (bt := bt) (lf := lf) (rg := rg) (dp := dp) (u := u) (sn := sn2_9) (row := re) (by first | assumption | omega | exact ⟨by omega, by omega⟩) (by first | assumption | omega | exact ⟨by omega, by omega⟩)) lk_X6_182 [0, 1, 2] [] ⟨rfl, rfl, by decide, by decide, by decide⟩ (jb := 0) rfl rfl dX6_faulty_43 rfl rfl ⟨by exact Nat.le_of_ble_eq_true rfl, by exact Nat.le_of_ble_eq_true rfl, rfl, rfl, by exact Nat.le_of_ble_eq_true rfl, by exact Nat.le_of_ble_eq_true rfl, by exact Nat.le_of_ble_eq_true rfl⟩ (fun r_12 w_14 h_11 => ?_)
            obtain ⟨sn2_13, rfl, h_11⟩ := h_11
            refine ⟨[0, 1, 2], [cO y 6 [.ref ms, .ref ma, .ref mp, .int (zI np), .ref mk, .int (zI ik), .ref md, .int (zI ml), .ref me, .ref mo, .int (zI sp), .int (zI wr), .int (zI tp), .int (zI bt), .int (zI lf), .int (zI rg), .int (zI dp)], cI cA ms 800 u, cI cA me 32 sn2_13], ⟨rfl, by decide⟩, ?_⟩
            have eb := h_11
            refine y_isub C dX6_faulty_46 ?_
            refine y_istore C [(6, .int (zI (r_8 - r_12))), (0, .ref y), (1, .int (zI pl)), (2, .int (zI found)), (3, .int (zI re)), (4, .int (zI ah)), (5, .int (zI rr))] dX6_faulty_47 (by decide) rfl ?_
            refine y_iload C 5 dX6_faulty_49 rfl ?_
            refine y_iload C 0 dX6_faulty_51 rfl ?_
            refine y_if_gt C 67 dX6_faulty_53 (by decide) ⟨by omega, by omega⟩ (fun c_15 => ?_) (fun c_15 => ?_)
            · refine y_iconst C dX6_faulty_67 ?_
              refine y_goto C 72 dX6_faulty_68 (by decide) ?_
              refine y_iadd C dX6_faulty_72 ?_
              refine y_istore C [(4, .int (zI (ah + 1))), (6, .int (zI (r_8 - r_12))), (0, .ref y), (1, .int (zI pl)), (2, .int (zI found)), (3, .int (zI re)), (5, .int (zI rr))] dX6_faulty_73 (by decide) rfl ?_
              refine y_iinc C 6 [(5, .int (zI (rr + 1))), (4, .int (zI (ah + 1))), (6, .int (zI (r_8 - r_12))), (0, .ref y), (1, .int (zI pl)), (2, .int (zI found)), (3, .int (zI re))] dX6_faulty_75 rfl (by decide) rfl ?_
              refine y_goto C 28 dX6_faulty_78 (by decide) ?_
              refine y_lsub C [3, 4, 5, 6, 1, 0] (lv' := [(0, .ref y), (1, .int (zI pl)), (2, .int (zI found)), (3, .int (zI re)), (4, .int (zI (ah + 1))), (5, .int (zI (rr + 1)))]) rfl ?_
              exact ih28 (ah + 1) (rr + 1) sn2_13 (by omega) (by refine ⟨?_, by omega, by omega⟩; exact zcnt_step (by omega) hah.1 (by unfold befP; omega)) (by omega)
            · refine y_iload C 0 dX6_faulty_56 rfl ?_
              refine y_if_ne C 71 dX6_faulty_58 (by decide) ⟨by omega, by omega⟩ (fun c_16 => ?_) (fun c_16 => ?_)
              · refine y_iconst C dX6_faulty_71 ?_
                refine y_iadd C dX6_faulty_72 ?_
                refine y_istore C [(4, .int (zI (ah + 0))), (6, .int (zI (r_8 - r_12))), (0, .ref y), (1, .int (zI pl)), (2, .int (zI found)), (3, .int (zI re)), (5, .int (zI rr))] dX6_faulty_73 (by decide) rfl ?_
                refine y_iinc C 6 [(5, .int (zI (rr + 1))), (4, .int (zI (ah + 0))), (6, .int (zI (r_8 - r_12))), (0, .ref y), (1, .int (zI pl)), (2, .int (zI found)), (3, .int (zI re))] dX6_faulty_75 rfl (by decide) rfl ?_
                refine y_goto C 28 dX6_faulty_78 (by decide) ?_
                refine y_lsub C [3, 4, 5, 6, 1, 0] (lv' := [(0, .ref y), (1, .int (zI pl)), (2, .int (zI found)), (3, .int (zI re)), (4, .int (zI (ah + 0))), (5, .int (zI (rr + 1)))]) rfl ?_
                exact ih28 (ah + 0) (rr + 1) sn2_13 (by omega) (by refine ⟨?_, by omega, by omega⟩; exact zcnt_step (by omega) hah.1 (by unfold befP; omega)) (by omega)
              · refine y_iload C 6 dX6_faulty_61 rfl ?_
                refine y_iload_n C 4 dX6_faulty_63 rfl ?_
                refine y_icmp_ge C 71 dX6_faulty_64 (by decide) ⟨⟨by omega, by omega⟩, ⟨by omega, by omega⟩⟩ (fun c_17 => ?_) (fun c_17 => ?_)
                · refine y_iconst C dX6_faulty_71 ?_
                  refine y_iadd C dX6_faulty_72 ?_
                  refine y_istore C [(4, .int (zI (ah + 0))), (6, .int (zI (r_8 - r_12))), (0, .ref y), (1, .int (zI pl)), (2, .int (zI found)), (3, .int (zI re)), (5, .int (zI rr))] dX6_faulty_73 (by decide) rfl ?_
                  refine y_iinc C 6 [(5, .int (zI (rr + 1))), (4, .int (zI (ah + 0))), (6, .int (zI (r_8 - r_12))), (0, .ref y), (1, .int (zI pl)), (2, .int (zI found)), (3, .int (zI re))] dX6_faulty_75 rfl (by decide) rfl ?_
                  refine y_goto C 28 dX6_faulty_78 (by decide) ?_
                  refine y_lsub C [3, 4, 5, 6, 1, 0] (lv' := [(0, .ref y), (1, .int (zI pl)), (2, .int (zI found)), (3, .int (zI re)), (4, .int (zI (ah + 0))), (5, .int (zI (rr + 1)))]) rfl ?_
                  exact ih28 (ah + 0) (rr + 1) sn2_13 (by omega) (by refine ⟨?_, by omega, by omega⟩; exact zcnt_step (by omega) hah.1 (by unfold befP; omega)) (by omega)
                · refine y_iconst C dX6_faulty_67 ?_
                  refine y_goto C 72 dX6_faulty_68 (by decide) ?_
                  refine y_iadd C dX6_faulty_72 ?_
                  refine y_istore C [(4, .int (zI (ah + 1))), (6, .int (zI (r_8 - r_12))), (0, .ref y), (1, .int (zI pl)), (2, .int (zI found)), (3, .int (zI re)), (5, .int (zI rr))] dX6_faulty_73 (by decide) rfl ?_
                  refine y_iinc C 6 [(5, .int (zI (rr + 1))), (4, .int (zI (ah + 1))), (6, .int (zI (r_8 - r_12))), (0, .ref y), (1, .int (zI pl)), (2, .int (zI found)), (3, .int (zI re))] dX6_faulty_75 rfl (by decide) rfl ?_
                  refine y_goto C 28 dX6_faulty_78 (by decide) ?_
                  refine y_lsub C [3, 4, 5, 6, 1, 0] (lv' := [(0, .ref y), (1, .int (zI pl)), (2, .int (zI found)), (3, .int (zI re)), (4, .int (zI (ah + 1))), (5, .int (zI (rr + 1)))]) rfl ?_
                  exact ih28 (ah + 1) (rr + 1) sn2_13 (by omega) (by refine ⟨?_, by omega, by omega⟩; exact zcnt_step (by omega) hah.1 (by unfold befP; omega)) (by omega)
  · refine y_iconst C dX6_faulty_10 ?_
    refine hret _ _ _ _ dX6_faulty_11 ⟨sn, rfl, ?_⟩
    show ((-1) = ansFaulty u pl)
    unfold ansFaulty; rw [if_neg (by omega)]
