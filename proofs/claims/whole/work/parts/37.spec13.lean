/-! ===== the reference's looks ===== -/
theorem chN_free {per : Int} {p : Int → Int} (h : ∀ k : Int, 0 ≤ k → k < 32 → p k < per) : ∀ (n : Nat) (c : Int), 0 ≤ c → c < 32 → c ≤ n → zb per p (chN per p n c) = -4 := by
  intro n
  induction n with
  | zero =>
    intro c h0 h1 h2
    obtain rfl : c = 0 := by omega
    have := zb_r (h 0 (by omega) (by omega))
    show zb per p 0 = -4
    omega
  | succ n ih =>
    intro c h0 h1 h2
    have hz := zb_r (h c h0 h1)
    show zb per p (if zb per p c = -4 then c else chN per p n (zb per p c)) = -4
    by_cases q : zb per p c = -4
    · rw [if_pos q]; exact q
    · rw [if_neg q]
      exact ih _ (by omega) (by omega) (by omega)
theorem chnR_free {u : Int → Int} {row c : Int} (h : UK u) (hr : 0 ≤ row ∧ row < 8) (hc : 0 ≤ c ∧ c < 32) : zb (u 0) (zp u row) (chnR u row c) = -4 := chN_free (h.zpu hr) 32 c hc.1 hc.2 (by omega)
theorem zcnt_not (P : Int → Prop) {c : Int} (h : 0 ≤ c) : zcnt (fun k => ¬ P k) c = c - zcnt P c := by
  obtain ⟨n, rfl⟩ := Int.eq_ofNat_of_zero_le h
  show cnt (fun k => ¬ P k) n = n - cnt P n
  induction n with
  | zero => rfl
  | succ n ih =>
    show cnt (fun k => ¬ P k) n + bI (¬ P n) = ((n + 1 : Nat) : Int) - (cnt P n + bI (P n))
    rw [ih (by omega)]
    by_cases q : P n
    · rw [bI_t q, bI_f (fun z => z q)]; omega
    · rw [bI_f q, bI_t q]; omega
theorem zcnt_pos {P : Int → Prop} {c : Int} : 0 < zcnt P c ↔ ∃ k : Int, 0 ≤ k ∧ k < c ∧ P k := by
  constructor
  · intro h
    refine Classical.byContradiction fun q => ?_
    have := zcnt_none (P := P) (c := c) (fun k a b z => q ⟨k, a, b, z⟩)
    omega
  · rintro ⟨k, a, b, z⟩
    have h1 := zcnt_lt (P := fun _ => False) (Q := P) (c := c) (m := k) (fun _ _ _ z => z.elim) a b z (fun z => z)
    have h2 := zcnt_none (P := fun _ : Int => False) (c := c) (fun _ _ _ z => z)
    omega
theorem lastZ_r {f : Int → Int} (h : ∀ k : Int, f k = -4 ∨ (0 ≤ f k ∧ f k ≤ 4)) (c : Int) : lastZ f c = -4 ∨ (0 ≤ lastZ f c ∧ lastZ f c ≤ 4) := by
  unfold lastZ
  generalize c.toNat = n
  induction n with
  | zero => exact Or.inl rfl
  | succ n ih =>
    show (if f n = -4 then lastN f n else f n) = -4 ∨ (0 ≤ (if f n = -4 then lastN f n else f n) ∧ (if f n = -4 then lastN f n else f n) ≤ 4)
    split
    · exact ih
    · exact h n
noncomputable def ecF (u : Int → Int) (row : Int) : Int → Int := fun i => zcnt (fun k => 2 + i ≤ k ∧ zd u row k = zd u row (k - (2 + i))) 32
theorem ecF_e (u : Int → Int) (row e : Int) : ecF u row (e - 2) = ecZ u row e := by
  unfold ecF ecZ
  rw [show 2 + (e - 2) = e by omega]
theorem seeU_of {u : Int → Int} {row col dot k : Int} (h : UK u) (hr : 0 ≤ row ∧ row < 8) (hc : 0 ≤ col ∧ col < 32) : seeR (zU u (288 + (row * 32 + col)) dot) row k = seeU u row col dot k := by
  unfold seeR seeU
  rw [zU_n (show (0 : Int) ≠ _ by omega), zU_n (show (2 : Int) ≠ _ by omega), zU_n (show (3 : Int) ≠ _ by omega)]
  refine seeZ_congr (fun j a b => ?_) h.s.1.1
  show zU u (288 + (row * 32 + col)) dot (288 + (row * 32 + j)) = zU (zd u row) col dot j
  unfold zU
  by_cases q : j = col
  · rw [if_pos (by omega), if_pos q]
  · rw [if_neg (by omega), if_neg q]
    rfl
theorem zpU_of {u : Int → Int} {row r2 col dot k : Int} (hr : 0 ≤ row ∧ row < 8) (hc : 0 ≤ col ∧ col < 32) (h2 : 0 ≤ r2 ∧ r2 < 8) (hk : 0 ≤ k ∧ k < 32) : zp (zU u (288 + (row * 32 + col)) dot) r2 k = zp u r2 k := zU_n (by omega)
theorem rgt_win {u : Int → Int} {row w : Int} (hu : 6 ≤ u 0) (hr : 0 ≤ row ∧ row < 8) : rgtZ (zU u 2 w) row = rwnZ u row w := by
  refine zcnt_congr (fun k a b => ?_)
  have e1 : zp (zU u 2 w) row k = zp u row k := zU_n (by omega)
  have e2 : seeR (zU u 2 w) row k = seeZ (u 0) w (u 3) (zd (zU u 2 w) row) k := by
    unfold seeR
    rw [zU_n (show (0 : Int) ≠ 2 by omega), zU_s, zU_n (show (3 : Int) ≠ 2 by omega)]
  have e4 : seeZ (u 0) w (u 3) (zd (zU u 2 w) row) k = seeZ (u 0) w (u 3) (zd u row) k := seeZ_congr (fun j c d => zU_n (by omega)) hu
  rw [e1, e2, e4]
theorem rprZ_congr {u v : Int → Int} {row per : Int} (hu : UK u) (h : ∀ k : Int, 0 ≤ k → k < 800 → v k = u k) (hr : 0 ≤ row ∧ row < 8) (hp : 6 ≤ per ∧ per ≤ 16) : rprZ v row per = rprZ u row per := by
  rw [← rgt_print hu hr hp, ← rgt_print (hu.c h) hr hp]
  have h2 : ∀ k : Int, 0 ≤ k → k < 800 → zU v 0 per k = zU u 0 per k := fun k a b => by
    unfold zU
    split
    · rfl
    · exact h k a b
  have hs := UK_set (wh := 0) (x := per) (hu.c h) (by omega)
  exact rgtZ_congr (printU_congr hr hs h2) ((UK_print hs hr).s.1.1) hr
theorem zU_back {u : Int → Int} {i x y : Int} (h : y = u i) : ∀ j : Int, 0 ≤ j → j < 800 → zU (zU u i x) i y j = u j := by
  intro j a b
  unfold zU
  by_cases q : j = i
  · rw [if_pos q, h, q]
  · rw [if_neg q, if_neg q]
theorem rwnZ_congr {u v : Int → Int} {row w : Int} (hu : UK u) (h : ∀ k : Int, 0 ≤ k → k < 800 → v k = u k) (hr : 0 ≤ row ∧ row < 8) : rwnZ v row w = rwnZ u row w := by
  refine zcnt_congr (fun k a b => ?_)
  have hv := hu.c h
  rw [h 0 (by omega) (by omega), h 3 (by omega) (by omega), zp_congr h hr a b, seeZ_congr (fun j c d => zd_congr h hr c d) hu.s.1.1]
theorem kndR_5 (u : Int → Int) (row : Int) : faultZ u row = 100 * (kndR u row 6 + kndR u row 5) + kndR u row 6 := rfl
theorem zk_0 {u : Int → Int} {row k : Int} (h : UK u) (hr : 0 ≤ row ∧ row < 8) (hk : 0 ≤ k ∧ k < 32) : (zk u row k = -4 ↔ u (544 + (row * 32 + k)) = 0) ∧ (¬ u (544 + (row * 32 + k)) = 0 → zk u row k = u (544 + (row * 32 + k)) - 1) := by
  have := h.k (row * 32 + k) (by omega) (by omega)
  unfold zk
  split <;> omega
theorem numW_pw {p sn : Int → Int} {q wh : Int} (h : wh ≤ 2) (h0 : 0 ≤ wh) : zcnt (fun k => (wh = 0 ∧ p k = q) ∨ (¬ wh = 0 ∧ sn k = q ∧ (wh = 1 ∨ p k = q))) 32 = numW p sn q wh := by
  unfold numW
  rcases (show wh = 0 ∨ wh = 1 ∨ wh = 2 from by omega) with rfl | rfl | rfl
  · rw [if_pos rfl]
    exact zcnt_congr (fun k a b => by omega)
  · rw [if_neg (by omega), if_pos rfl]
    exact zcnt_congr (fun k a b => by omega)
  · rw [if_neg (by omega), if_neg (by omega), if_pos rfl]
    exact zcnt_congr (fun k a b => by omega)
theorem numW_3t {p sn : Int → Int} {q : Int} (h : ∃ k : Int, 0 ≤ k ∧ k < 32 ∧ p k = q) : numW p sn q 3 = 1 := by
  unfold numW
  rw [if_neg (by omega), if_neg (by omega), if_neg (by omega), if_pos (zcnt_pos.mpr h)]
theorem numW_3f {p sn : Int → Int} {q : Int} (h : ¬ ∃ k : Int, 0 ≤ k ∧ k < 32 ∧ p k = q) : numW p sn q 3 = 0 := by
  unfold numW
  rw [if_neg (by omega), if_neg (by omega), if_neg (by omega), if_neg (fun z => h (zcnt_pos.mp z))]
theorem sm1_or {x : Int} (hx : x = -4 ∨ (0 ≤ x ∧ x ≤ 4)) : (x = -4 ∧ sm1 x = -1) ∨ (0 ≤ x ∧ x ≤ 4 ∧ sm1 x = x) := by
  unfold sm1
  split <;> omega
def exP (p : Int → Int) (q c : Int) : Prop := ∃ k : Int, 0 ≤ k ∧ k < c ∧ p k = q
theorem exP_0 (p : Int → Int) (q : Int) : ¬ exP p q 0 := fun ⟨k, a, b, _⟩ => by omega
theorem exP_i {p : Int → Int} {q c : Int} (h : exP p q c) : exP p q (c + 1) := by
  obtain ⟨k, a, b, z⟩ := h
  exact ⟨k, a, by omega, z⟩
theorem exP_t {p : Int → Int} {q c : Int} (h0 : 0 ≤ c) (h : p c = q) : exP p q (c + 1) := ⟨c, h0, by omega, h⟩
theorem exP_f {p : Int → Int} {q c : Int} (h : ¬ exP p q c) (h2 : ¬ p c = q) : ¬ exP p q (c + 1) := fun ⟨k, a, b, z⟩ => by
  by_cases e : k = c
  · subst e; exact h2 z
  · exact h ⟨k, a, by omega, z⟩
