theorem printU_congr {u v : Int → Int} {row : Int} (hr : 0 ≤ row ∧ row < 8) (hv : UK v) (h : ∀ j : Int, 0 ≤ j → j < 800 → v j = u j) : ∀ j : Int, 0 ≤ j → j < 800 → printU v row j = printU u row j := by
  intro j a b
  rw [printU_pg hr, printU_pg hr]
  have hs := hv.len
  have hq := prZ_congr (per := u 0) (len := u 7) (col := u 1) (lot := u 6) (p := zp v row) (d := zd v row) (T := fun j => v (8 + j)) (p' := zp u row) (d' := zd u row) (T' := fun j => u (8 + j)) (fun k c d => by rw [← h 0 (by omega) (by omega)]; exact hv.zpu hr k c d) (fun k c d => zp_congr h hr c d) (fun k c d => zd_congr h hr c d) (fun k c d => h (8 + k) (by omega) (by have := h 7 (by omega) (by omega); omega)) 32 (Nat.le_refl _)
  have e1 : ∀ k : Int, 0 ≤ k → k < 32 → (prtZ v row).1 k = (prtZ u row).1 k := fun k c d => by
    unfold prtZ
    rw [h 0 (by omega) (by omega), h 7 (by omega) (by omega), h 1 (by omega) (by omega), h 6 (by omega) (by omega)]
    exact hq.1 k c d
  have e2 : (prtZ v row).2.2 = (prtZ u row).2.2 := by
    unfold prtZ
    rw [h 0 (by omega) (by omega), h 7 (by omega) (by omega), h 1 (by omega) (by omega), h 6 (by omega) (by omega)]
    exact congrArg Prod.snd hq.2.1
  unfold pgF
  rw [e2]
  by_cases q1 : j = 6
  · rw [if_pos q1, if_pos q1]
  · rw [if_neg q1, if_neg q1]
    by_cases q2 : 288 + row * 32 ≤ j ∧ j < 320 + row * 32
    · rw [if_pos q2, if_pos q2]
      exact e1 _ (by omega) (by omega)
    · rw [if_neg q2, if_neg q2, h j a b]
theorem wipe_step1 {u u1 : Int → Int} {row c : Int} (hr : 0 ≤ row ∧ row < 8) (hc : 0 ≤ c ∧ c < 32) (h : ∀ j : Int, 0 ≤ j → j < 800 → u1 j = if (288 + row * 32 ≤ j ∧ j < 288 + row * 32 + c) ∧ 0 < u (j + 256) then u (j + 256) - 1 else if 544 + row * 32 ≤ j ∧ j < 544 + row * 32 + c then 0 else u j) (e1 : u1 (544 + (row * 32 + c)) = u (544 + (row * 32 + c))) (hp : 0 < u1 (544 + (row * 32 + c))) : ∀ j : Int, 0 ≤ j → j < 800 → zU (zU u1 (288 + (row * 32 + c)) (u1 (544 + (row * 32 + c)) - 1)) (544 + (row * 32 + c)) 0 j = if (288 + row * 32 ≤ j ∧ j < 288 + row * 32 + (c + 1)) ∧ 0 < u (j + 256) then u (j + 256) - 1 else if 544 + row * 32 ≤ j ∧ j < 544 + row * 32 + (c + 1) then 0 else u j := by
  intro j a b
  by_cases q1 : j = 544 + (row * 32 + c)
  · subst q1
    rw [zU_s, if_neg (by omega), if_pos (by omega)]
  · rw [zU_n q1]
    by_cases q2 : j = 288 + (row * 32 + c)
    · subst q2
      rw [zU_s, e1]
      rw [e1] at hp
      have e : 288 + (row * 32 + c) + 256 = 544 + (row * 32 + c) := by omega
      rw [e, if_pos (by omega)]
    · rw [zU_n q2, h j a b]
      by_cases q3 : (288 + row * 32 ≤ j ∧ j < 288 + row * 32 + c) ∧ 0 < u (j + 256)
      · rw [if_pos q3, if_pos (by omega)]
      · rw [if_neg q3, if_neg (c := (288 + row * 32 ≤ j ∧ j < 288 + row * 32 + (c + 1)) ∧ 0 < u (j + 256)) (by omega)]
        (repeat' split) <;> first | rfl | (exfalso; omega)
theorem wipe_step0 {u u1 : Int → Int} {row c : Int} (hr : 0 ≤ row ∧ row < 8) (hc : 0 ≤ c ∧ c < 32) (h : ∀ j : Int, 0 ≤ j → j < 800 → u1 j = if (288 + row * 32 ≤ j ∧ j < 288 + row * 32 + c) ∧ 0 < u (j + 256) then u (j + 256) - 1 else if 544 + row * 32 ≤ j ∧ j < 544 + row * 32 + c then 0 else u j) (e1 : u (544 + (row * 32 + c)) = 0) : ∀ j : Int, 0 ≤ j → j < 800 → u1 j = if (288 + row * 32 ≤ j ∧ j < 288 + row * 32 + (c + 1)) ∧ 0 < u (j + 256) then u (j + 256) - 1 else if 544 + row * 32 ≤ j ∧ j < 544 + row * 32 + (c + 1) then 0 else u j := by
  intro j a b
  rw [h j a b]
  by_cases q1 : j = 544 + (row * 32 + c)
  · subst q1
    rw [if_neg (by omega), if_neg (by omega), if_neg (by omega), if_pos (by omega), e1]
  · by_cases q2 : j = 288 + (row * 32 + c)
    · subst q2
      have e : 288 + (row * 32 + c) + 256 = 544 + (row * 32 + c) := by omega
      rw [e, e1, if_neg (by omega), if_neg (by omega), if_neg (by omega), if_neg (by omega)]
    · by_cases q3 : (288 + row * 32 ≤ j ∧ j < 288 + row * 32 + c) ∧ 0 < u (j + 256)
      · rw [if_pos q3, if_pos (by omega)]
      · rw [if_neg q3, if_neg (c := (288 + row * 32 ≤ j ∧ j < 288 + row * 32 + (c + 1)) ∧ 0 < u (j + 256)) (by omega)]
        (repeat' split) <;> first | rfl | (exfalso; omega)
theorem allZ_congr {u v : Int → Int} (hu : 6 ≤ u 0) (h : ∀ k : Int, 0 ≤ k → k < 800 → u k = v k) : allZ u = allZ v := by
  have key : ∀ n : Nat, n ≤ 8 → sumN (fun row => kndR u row 4) n = sumN (fun row => kndR v row 4) n := by
    intro n
    induction n with
    | zero => intro _; rfl
    | succ n ih =>
      intro hn
      show sumN (fun row => kndR u row 4) n + kndR u n 4 = sumN (fun row => kndR v row 4) n + kndR v n 4
      rw [ih (by omega), kndR_4, kndR_4, rgtZ_congr h hu ⟨by omega, by omega⟩]
  exact key 8 (Nat.le_refl _)
