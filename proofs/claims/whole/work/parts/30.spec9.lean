/-! ===== the reference: its row of 800 numbers ===== -/
def UK (u : Int → Int) : Prop := ∃ S P Q M T len lot, Rel u S P Q M T len lot
theorem UK.s {u : Int → Int} (h : UK u) : (6 ≤ u 0 ∧ u 0 ≤ 16) ∧ (2 ≤ u 1 ∧ u 1 ≤ 8) ∧ (0 ≤ u 2 ∧ u 2 ≤ 3) ∧ (0 ≤ u 3 ∧ u 3 ≤ 1) ∧ (20 ≤ u 4 ∧ u 4 ≤ 99) ∧ (10 ≤ u 5 ∧ u 5 ≤ 400) := by
  obtain ⟨S, P, Q, M, T, len, lot, h⟩ := h
  exact h.S.2
theorem UK.lot {u : Int → Int} (h : UK u) : 0 ≤ u 6 ∧ u 6 ≤ 9999 := by
  obtain ⟨S, P, Q, M, T, len, lot, h⟩ := h
  have := h.L
  unfold RL6 at this
  omega
theorem UK.len {u : Int → Int} (h : UK u) : 0 ≤ u 7 ∧ u 7 ≤ 24 := by
  obtain ⟨S, P, Q, M, T, len, lot, h⟩ := h
  have h1 := h.T.1
  have h2 := h.T.2.1
  have h3 := h.T.2.2.1
  omega
theorem UK.str {u : Int → Int} (h : UK u) : ∀ k : Int, 0 ≤ k → k < u 7 → 0 ≤ u (8 + k) ∧ u (8 + k) ≤ 7 := by
  obtain ⟨S, P, Q, M, T, len, lot, h⟩ := h
  intro k a b
  have h1 := h.T.1
  have h2 := h.T.2.2.1
  have h3 := h.T.2.2.2.1 k a (by omega)
  rw [h.T.2.2.2.2 k a (by omega)] at h3
  exact h3
theorem UK.p {u : Int → Int} (h : UK u) : ∀ k : Int, 0 ≤ k → k < 256 → 0 ≤ u (32 + k) ∧ u (32 + k) ≤ 4 := by
  obtain ⟨S, P, Q, M, T, len, lot, h⟩ := h
  exact fun k a b => (h.P k a b).2
theorem UK.d {u : Int → Int} (h : UK u) : ∀ k : Int, 0 ≤ k → k < 256 → 0 ≤ u (288 + k) ∧ u (288 + k) ≤ 7 := by
  obtain ⟨S, P, Q, M, T, len, lot, h⟩ := h
  exact fun k a b => (h.Q k a b).2
theorem UK.k {u : Int → Int} (h : UK u) : ∀ k : Int, 0 ≤ k → k < 256 → 0 ≤ u (544 + k) ∧ u (544 + k) ≤ 8 := by
  obtain ⟨S, P, Q, M, T, len, lot, h⟩ := h
  exact fun k a b => by have := h.M k a b; omega
theorem UK.rp {u : Int → Int} (h : UK u) {row k : Int} (hr : 0 ≤ row ∧ row < 8) (h0 : 0 ≤ k) (h1 : k < 32) : 0 ≤ zp u row k ∧ zp u row k ≤ 4 := h.p (row * 32 + k) (by omega) (by omega)
theorem UK.rd {u : Int → Int} (h : UK u) {row k : Int} (hr : 0 ≤ row ∧ row < 8) (h0 : 0 ≤ k) (h1 : k < 32) : 0 ≤ zd u row k ∧ zd u row k ≤ 7 := h.d (row * 32 + k) (by omega) (by omega)
theorem UK.zpu {u : Int → Int} (h : UK u) {row : Int} (hr : 0 ≤ row ∧ row < 8) : ∀ k : Int, 0 ≤ k → k < 32 → zp u row k < u 0 := fun k a b => by
  have h1 := h.rp hr a b
  have h2 := h.s
  omega
theorem UK.c {u v : Int → Int} (h : UK u) (e : ∀ k : Int, 0 ≤ k → k < 800 → v k = u k) : UK v := by
  obtain ⟨S, P, Q, M, T, len, lot, h⟩ := h
  exact ⟨S, P, Q, M, T, len, lot, Rel_congr h (fun k a b => (e k a b).symm)⟩
/-- .. of any row of numbers in their ranges there is a sheet -/
theorem Rel_ex {u : Int → Int} (h : UK u) : ∃ S P Q M T, Rel u S P Q M T (u 7) (u 6) := by
  obtain ⟨S, P, Q, M, T, len, lot, h⟩ := h
  refine ⟨S, P, Q, M, T, ?_⟩
  have h1 := h.T.1
  have h2 : lot = u 6 := h.L.1
  rw [← h1, ← h2]
  exact h
/-- what the reference has for a plane that is seen: -1 where it is blurred -/
def sm1 (x : Int) : Int := if x = -4 then -1 else x
theorem sm1_eq {x y : Int} (hx : x = -4 ∨ (0 ≤ x ∧ x ≤ 4)) (hy : y = -4 ∨ (0 ≤ y ∧ y ≤ 4)) : sm1 x = sm1 y ↔ x = y := by
  unfold sm1
  (repeat' split) <;> omega
theorem sm1_r {x : Int} (hx : x = -4 ∨ (0 ≤ x ∧ x ≤ 4)) : -1 ≤ sm1 x ∧ sm1 x ≤ 4 := by
  unfold sm1
  split <;> omega
theorem sm1_p {x p : Int} (hx : x = -4 ∨ (0 ≤ x ∧ x ≤ 4)) (hp : 0 ≤ p) : sm1 x = p ↔ x = p := by
  unfold sm1
  split <;> omega
theorem difP_congr {u v u2 v2 : Int → Int} {o : Int} (ho : 0 ≤ o ∧ o ≤ 544) (h1 : ∀ k : Int, 0 ≤ k → k < 800 → u k = u2 k) (h2 : ∀ k : Int, 0 ≤ k → k < 800 → v k = v2 k) : difP u v o = difP u2 v2 o := zcnt_congr (fun k a b => by rw [h1 _ (by omega) (by omega), h2 _ (by omega) (by omega)])
theorem zp_congr {u v : Int → Int} {row k : Int} (h : ∀ k : Int, 0 ≤ k → k < 800 → u k = v k) (hr : 0 ≤ row ∧ row < 8) (h0 : 0 ≤ k) (h1 : k < 32) : zp u row k = zp v row k := h _ (by omega) (by omega)
theorem zd_congr {u v : Int → Int} {row k : Int} (h : ∀ k : Int, 0 ≤ k → k < 800 → u k = v k) (hr : 0 ≤ row ∧ row < 8) (h0 : 0 ≤ k) (h1 : k < 32) : zd u row k = zd v row k := h _ (by omega) (by omega)
theorem seeR_congr {u v : Int → Int} {row k : Int} (h : ∀ k : Int, 0 ≤ k → k < 800 → u k = v k) (hu : 6 ≤ u 0) (hr : 0 ≤ row ∧ row < 8) : seeR u row k = seeR v row k := by
  unfold seeR
  rw [← h 0 (by omega) (by omega), ← h 2 (by omega) (by omega), ← h 3 (by omega) (by omega)]
  exact seeZ_congr (fun k a b => zd_congr h hr a b) hu
theorem rgtZ_congr {u v : Int → Int} {row : Int} (h : ∀ k : Int, 0 ≤ k → k < 800 → u k = v k) (hu : 6 ≤ u 0) (hr : 0 ≤ row ∧ row < 8) : rgtZ u row = rgtZ v row := zcnt_congr (fun k a b => by rw [seeR_congr h hu hr, zp_congr h hr a b])
theorem UK_turn {u : Int → Int} {row : Int} (h : UK u) (hr : 0 ≤ row ∧ row < 8) : UK (turnU u row) := by
  obtain ⟨S, P, Q, M, T, h1⟩ := Rel_ex h
  exact ⟨_, _, _, _, _, _, _, Rel_turn h1 hr (fun _ _ _ => rfl) (fun _ _ _ => rfl) (fun _ _ _ => rfl) (fun _ => rfl) (fun _ => rfl) (fun _ => rfl)⟩
theorem prN_r {per len col lot : Int} {p d T : Int → Int} (hpr : ∀ k : Int, 0 ≤ k → k < 32 → p k < per) (hd : ∀ k : Int, 0 ≤ k → k < 32 → 0 ≤ d k ∧ d k ≤ 7) (hT : ∀ k : Int, 0 ≤ k → k < len → 0 ≤ T k ∧ T k ≤ 7) (hc : 2 ≤ col ∧ col ≤ 8) (hl : 0 ≤ lot ∧ lot ≤ 9999) : ∀ n : Nat, n ≤ 32 → (∀ k : Int, 0 ≤ k → k < 32 → 0 ≤ (prN per p d T len col lot n).1 k ∧ (prN per p d T len col lot n).1 k ≤ 7) ∧ 0 ≤ (prN per p d T len col lot n).2.2 ∧ (prN per p d T len col lot n).2.2 ≤ 9999 ∧ 0 ≤ (prN per p d T len col lot n).2.1 := by
  intro n
  induction n with
  | zero => exact fun _ => ⟨hd, hl.1, hl.2, Int.le_refl _⟩
  | succ n ih =>
    intro hn
    obtain ⟨h1, h2, h3, h4⟩ := ih (by omega)
    have hz := zb_r (hpr n (by omega) (by omega))
    unfold prN
    by_cases q : ¬ zb per p (n : Int) = -4
    · rw [if_pos q]
      refine ⟨fun k a b => ?_, h2, h3, h4⟩
      show 0 ≤ zU _ _ _ k ∧ zU _ _ _ k ≤ 7
      unfold zU
      split
      · exact h1 _ (by omega) (by omega)
      · exact h1 k a b
    · rw [if_neg q]
      by_cases q2 : 0 < len
      · rw [if_pos q2]
        have q3 := zmod_r (prN per p d T len col lot n).2.1 q2
        refine ⟨fun k a b => ?_, h2, h3, by show 0 ≤ (prN per p d T len col lot n).2.1 + 1; omega⟩
        show 0 ≤ zU _ _ _ k ∧ zU _ _ _ k ≤ 7
        unfold zU
        split
        · exact hT _ q3.1 q3.2
        · exact h1 k a b
      · rw [if_neg q2]
        have q3 := zmod_r (421 * (prN per p d T len col lot n).2.2 + 1663) (b := 10000) (by omega)
        have q4 := zmod_r ((421 * (prN per p d T len col lot n).2.2 + 1663) % 10000) (b := col) (by omega)
        refine ⟨fun k a b => ?_, q3.1, by show (421 * (prN per p d T len col lot n).2.2 + 1663) % 10000 ≤ 9999; omega, h4⟩
        show 0 ≤ zU _ _ _ k ∧ zU _ _ _ k ≤ 7
        unfold zU
        split
        · omega
        · exact h1 k a b
theorem prtZ_r {u : Int → Int} {row : Int} (h : UK u) (hr : 0 ≤ row ∧ row < 8) : (∀ k : Int, 0 ≤ k → k < 32 → 0 ≤ (prtZ u row).1 k ∧ (prtZ u row).1 k ≤ 7) ∧ 0 ≤ (prtZ u row).2.2 ∧ (prtZ u row).2.2 ≤ 9999 := by
  have h2 := prN_r (per := u 0) (len := u 7) (col := u 1) (lot := u 6) (T := fun j => u (8 + j)) (h.zpu hr) (fun k a b => h.rd hr a b) h.str h.s.2.1 h.lot 32 (Nat.le_refl _)
  exact ⟨h2.1, h2.2.1, h2.2.2.1⟩
theorem UK_print {u : Int → Int} {row : Int} (h : UK u) (hr : 0 ≤ row ∧ row < 8) : UK (printU u row) := by
  obtain ⟨S, P, Q, M, T, h1⟩ := Rel_ex h
  have h2 := prtZ_r h hr
  exact ⟨_, _, _, _, _, _, _, Rel_print (m := fun _ => -4) h1 hr (fun _ _ _ => rfl) (fun _ _ _ => rfl) h2.1 (fun _ _ _ => rfl) (fun _ => rfl) (fun _ => rfl) (fun _ => rfl) rfl h2.2⟩
theorem UK_set {u : Int → Int} {wh x : Int} (h : UK u) (hv : vSet wh x) : UK (zU u wh x) := by
  obtain ⟨S, P, Q, M, T, h1⟩ := Rel_ex h
  exact ⟨_, _, _, _, _, _, _, Rel_set h1 hv⟩
theorem UK_dot {u : Int → Int} {k x : Int} (h : UK u) (hk : 288 ≤ k ∧ k < 544) (hx : 0 ≤ x ∧ x ≤ 7) : UK (zU u k x) := by
  obtain ⟨S, P, Q, M, T, h1⟩ := Rel_ex h
  refine ⟨S, P, zU Q (k - 288) x, M, T, u 7, u 6, RS_c h1.S (fun j a b => zU_n (by omega)), RP_c h1.P (fun j a b => zU_n (by omega)), fun j a b => ?_, RM_c h1.M (fun j a b => zU_n (by omega)), RT_c h1.T (fun j a b => zU_n (by omega)), RL_c h1.L (zU_n (by omega))⟩
  have h2 := h1.Q j a b
  unfold zU
  by_cases q : j = k - 288
  · rw [if_pos q, if_pos (by omega)]; omega
  · rw [if_neg q, if_neg (by omega)]; exact h2
theorem HR_congr {p p2 : Int → Int} {stt : Int} {kF : Nat → Nat → Int → Int} {kl kt : Nat → Int} (h : HR p stt kF kl kt) (e : ∀ k : Int, 0 ≤ k → k < 800 * stt → p2 k = p k) : HR p2 stt kF kl kt := ⟨h.1, h.2.1, fun i hi hin => Rel_congr (h.2.2 i hi hin) (fun k a b => (e _ (by omega) (by omega)).symm)⟩
