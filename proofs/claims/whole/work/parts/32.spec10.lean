theorem y_iincW {l : Launch} {K : KT} {own : String} {cc : ByteArray} {nL : Nat} {R : Room} {D : va_G} {tys : List (ClassId × FieldType)} {k n : Nat} {ws : va_W} {lv : List (Nat × Value)} {pc : Nat} {st : List Value} (C : YC l K own cc nL R D tys) {i : Nat} {x q : Int} (j : Nat) (lv' : List (Nat × Value)) (hd : decode cc pc = .ok (.iinc i q, 6)) (hk : lv[j]? = some (i, .int (zI x))) (hn : i < nL) (hl : (i, Value.int (zI (x + q))) :: lv.filter (fun q => !(q.1 == i) && !(q.1 + 1 == i && q.2.category == 2)) = lv') (g : K k n ws lv' (pc + 6) st) : K k n ws lv pc st := by
  obtain ⟨p, e, s, m, args, below, meth, c, A, Q, rfl, hx, hb, hml, hown, hts, hK, hA, hNs⟩ := C
  intro H locs ls hP hD hS h
  exact lv_iincW hx hb hd h hk (zI_add x q) hn hl (fun ls' h' => g H locs ls' hP hD hS h')
theorem UK_lay {u : Int → Int} {top left bottom right pl : Int} (h : UK u) (hp : 0 ≤ pl ∧ pl ≤ 4) : UK (layU u top left bottom right pl) := by
  obtain ⟨S, P, Q, M, T, h1⟩ := Rel_ex h
  exact ⟨S, _, Q, M, T, _, _, Rel_lay h1 hp (fun _ _ _ => rfl)⟩
/-! swap -/
theorem swap_step {u u3 av : Int → Int} {row q pt c : Int} (hr : 0 ≤ row ∧ row < 8) (hq : 0 ≤ q ∧ q < 8) (hne : ¬ row = q) (hc : 0 ≤ c ∧ c < 32) (hpt : pt = 32 ∨ pt = 288 ∨ pt = 544) (hav : ∀ j : Int, 0 ≤ j → j < 800 → av j = u j)
    (h3 : ∀ j : Int, 0 ≤ j → j < 800 → u3 j = if j < pt ∨ (j < pt + 256 ∧ j % 32 < c) then swapU u row q j else u j) : ∀ j : Int, 0 ≤ j → j < 800 → zU (zU u3 (pt + (row * 32 + c)) (av (pt + (q * 32 + c)))) (pt + (q * 32 + c)) (av (pt + (row * 32 + c))) j = if j < pt ∨ (j < pt + 256 ∧ j % 32 < c + 1) then swapU u row q j else u j := by
  have hA : swapU u row q (pt + (row * 32 + c)) = u (pt + (q * 32 + c)) := by
    unfold swapU
    rcases hpt with rfl | rfl | rfl <;> (rw [if_pos (by omega)]; congr 1; omega)
  have hB : swapU u row q (pt + (q * 32 + c)) = u (pt + (row * 32 + c)) := by
    unfold swapU
    rcases hpt with rfl | rfl | rfl <;> (rw [if_neg (by omega), if_pos (by omega)]; congr 1; omega)
  have hO : ∀ j : Int, pt ≤ j → j < pt + 256 → j % 32 = c → ¬ j = pt + (row * 32 + c) → ¬ j = pt + (q * 32 + c) → swapU u row q j = u j := by
    intro j a b e n1 n2
    unfold swapU
    rcases hpt with rfl | rfl | rfl <;> rw [if_neg (by omega), if_neg (by omega)]
  intro j a b
  by_cases e2 : j = pt + (q * 32 + c)
  · subst e2
    rw [zU_s, hav _ (by omega) (by omega), hB, if_pos (by omega)]
  · rw [zU_n e2]
    by_cases e1 : j = pt + (row * 32 + c)
    · subst e1
      rw [zU_s, hav _ (by omega) (by omega), hA, if_pos (by omega)]
    · rw [zU_n e1, h3 j a b]
      by_cases e3 : j < pt ∨ (j < pt + 256 ∧ j % 32 < c)
      · rw [if_pos e3, if_pos (by omega)]
      · rw [if_neg e3]
        by_cases e4 : j < pt ∨ (j < pt + 256 ∧ j % 32 < c + 1)
        · rw [if_pos e4, hO j (by omega) (by omega) (by omega) e1 e2]
        · rw [if_neg e4]
/-! turn -/
theorem turnU_at {u : Int → Int} {row k : Int} (hr : 0 ≤ row ∧ row < 8) (h0 : 0 ≤ k) (h1 : k < 800) : turnU u row k = if 32 ≤ k ∧ (k / 32 - 1) % 8 = row then u (k + 31 - 2 * (k % 32)) else u k := by
  unfold turnU putU
  by_cases a : 32 + row * 32 ≤ k ∧ k < 64 + row * 32
  · rw [if_pos a, if_pos (by omega)]
    show u (32 + (row * 32 + (31 - (k - (32 + row * 32))))) = _
    congr 1
    omega
  · rw [if_neg a]
    by_cases b : 288 + row * 32 ≤ k ∧ k < 320 + row * 32
    · rw [if_pos b, if_pos (by omega)]
      show u (288 + (row * 32 + (31 - (k - (288 + row * 32))))) = _
      congr 1
      omega
    · rw [if_neg b]
      by_cases c : 544 + row * 32 ≤ k ∧ k < 576 + row * 32
      · rw [if_pos c, if_pos (by omega)]
        show u (544 + (row * 32 + (31 - (k - (544 + row * 32))))) = _
        congr 1
        omega
      · rw [if_neg c, if_neg (by omega)]
theorem turn_step {u u3 av : Int → Int} {row pt c : Int} (hr : 0 ≤ row ∧ row < 8) (hc : 0 ≤ c ∧ c < 32) (hpt : pt = 32 ∨ pt = 288 ∨ pt = 544) (hav : ∀ j : Int, 0 ≤ j → j < 800 → av j = u j)
    (h3 : ∀ j : Int, 0 ≤ j → j < 800 → u3 j = if j < pt ∨ (j < pt + 256 ∧ j % 32 < c) then turnU u row j else u j) : ∀ j : Int, 0 ≤ j → j < 800 → zU u3 (pt + (row * 32 + c)) (av (pt + (row * 32 + (31 - c)))) j = if j < pt ∨ (j < pt + 256 ∧ j % 32 < c + 1) then turnU u row j else u j := by
  have hA : turnU u row (pt + (row * 32 + c)) = u (pt + (row * 32 + (31 - c))) := by
    rw [turnU_at hr (by omega) (by omega)]
    rcases hpt with rfl | rfl | rfl <;> (rw [if_pos (by omega)]; congr 1; omega)
  have hO : ∀ j : Int, pt ≤ j → j < pt + 256 → j % 32 = c → ¬ j = pt + (row * 32 + c) → turnU u row j = u j := by
    intro j a b e n1
    rw [turnU_at hr (by omega) (by omega)]
    rcases hpt with rfl | rfl | rfl <;> rw [if_neg (by omega)]
  intro j a b
  by_cases e1 : j = pt + (row * 32 + c)
  · subst e1
    rw [zU_s, hav _ (by omega) (by omega), hA, if_pos (by omega)]
  · rw [zU_n e1, h3 j a b]
    by_cases e3 : j < pt ∨ (j < pt + 256 ∧ j % 32 < c)
    · rw [if_pos e3, if_pos (by omega)]
    · rw [if_neg e3]
      by_cases e4 : j < pt ∨ (j < pt + 256 ∧ j % 32 < c + 1)
      · rw [if_pos e4, hO j (by omega) (by omega) (by omega) e1]
      · rw [if_neg e4]
/-! print: the row of numbers under way -/
def pgF (u : Int → Int) (row : Int) (D : Int → Int) (m lt : Int) : Int → Int := fun j => if j = 6 then lt else if 288 + row * 32 ≤ j ∧ j < 320 + row * 32 then D (j - (288 + row * 32)) else if 544 + row * 32 ≤ j ∧ j < 544 + row * 32 + m then 0 else u j
theorem UK_pg {u D : Int → Int} {row m lt : Int} (h : UK u) (hr : 0 ≤ row ∧ row < 8) (hD : ∀ k : Int, 0 ≤ k → k < 32 → 0 ≤ D k ∧ D k ≤ 7) (hm : 0 ≤ m ∧ m ≤ 32) (hl : 0 ≤ lt ∧ lt ≤ 9999) : UK (pgF u row D m lt) := by
  obtain ⟨S, P, Q, M, T, h1⟩ := Rel_ex h
  refine ⟨S, P, fun k => if row * 32 ≤ k ∧ k < row * 32 + 32 then D (k - row * 32) else Q k, fun k => if row * 32 ≤ k ∧ k < row * 32 + m then -4 else M k, T, u 7, lt, RS_c h1.S (fun k a b => ?_), RP_c h1.P (fun k a b => ?_), fun k a b => ?_, fun k a b => ?_, RT_c h1.T (fun k a b => ?_), ?_, hl⟩
  · unfold pgF; rw [if_neg (by omega), if_neg (by omega), if_neg (by omega)]
  · unfold pgF; rw [if_neg (by omega), if_neg (by omega), if_neg (by omega)]
  · have h2 := h1.Q k a b
    unfold pgF
    rw [if_neg (by omega)]
    dsimp only
    by_cases q : row * 32 ≤ k ∧ k < row * 32 + 32
    · rw [if_pos q, if_pos (by omega), show 288 + k - (288 + row * 32) = k - row * 32 by omega]
      exact ⟨rfl, hD _ (by omega) (by omega)⟩
    · rw [if_neg q, if_neg (by omega), if_neg (by omega)]
      exact h2
  · have h2 := h1.M k a b
    unfold pgF
    rw [if_neg (c := 544 + k = 6) (by omega), if_neg (c := 288 + row * 32 ≤ 544 + k ∧ 544 + k < 320 + row * 32) (by omega)]
    dsimp only
    by_cases q : row * 32 ≤ k ∧ k < row * 32 + m
    · rw [if_pos q, if_pos (by omega)]
      exact Or.inl ⟨rfl, rfl⟩
    · rw [if_neg q, if_neg (by omega)]
      exact h2
  · unfold pgF; rw [if_neg (by omega), if_neg (by omega), if_neg (by omega)]
  · unfold pgF; rw [if_pos rfl]
theorem printU_pg {u : Int → Int} {row k : Int} (hr : 0 ≤ row ∧ row < 8) : printU u row k = pgF u row (prtZ u row).1 32 (prtZ u row).2.2 k := by
  unfold printU zU pgF putU
  by_cases a : k = 6
  · rw [if_pos a, if_pos a]
  · rw [if_neg a, if_neg a]
    by_cases b : 32 + row * 32 ≤ k ∧ k < 64 + row * 32
    · rw [if_pos b, if_neg (by omega), if_neg (by omega)]
      show u (32 + (row * 32 + (k - (32 + row * 32)))) = u k
      congr 1
      omega
    · rw [if_neg b]
      by_cases c : 288 + row * 32 ≤ k ∧ k < 320 + row * 32
      · rw [if_pos c, if_pos c]
      · rw [if_neg c, if_neg c]
        by_cases d : 544 + row * 32 ≤ k ∧ k < 576 + row * 32
        · rw [if_pos d, if_pos (by omega)]
        · rw [if_neg d, if_neg (by omega)]
theorem pg_step {u u1 v D : Int → Int} {row c lt lt2 dot : Int} (hr : 0 ≤ row ∧ row < 8) (hc : 0 ≤ c ∧ c < 32) (h1 : ∀ j : Int, 0 ≤ j → j < 800 → u1 j = pgF u row D c lt j) (hv : ∀ j : Int, 0 ≤ j → j < 800 → v j = if j = 6 then lt2 else u1 j) : ∀ j : Int, 0 ≤ j → j < 800 → zU (zU v (288 + (row * 32 + c)) dot) (544 + (row * 32 + c)) 0 j = pgF u row (zU D c dot) (c + 1) lt2 j := by
  intro j a b
  by_cases e1 : j = 544 + (row * 32 + c)
  · subst e1
    rw [zU_s]
    unfold pgF
    rw [if_neg (by omega), if_neg (by omega), if_pos (by omega)]
  · rw [zU_n e1]
    by_cases e2 : j = 288 + (row * 32 + c)
    · subst e2
      rw [zU_s]
      unfold pgF
      rw [if_neg (by omega), if_pos (by omega), show 288 + (row * 32 + c) - (288 + row * 32) = c by omega, zU_s]
    · rw [zU_n e2, hv j a b]
      unfold pgF
      by_cases e3 : j = 6
      · rw [if_pos e3, if_pos e3]
      · rw [if_neg e3, if_neg e3, h1 j a b]
        unfold pgF
        rw [if_neg e3]
        by_cases e4 : 288 + row * 32 ≤ j ∧ j < 320 + row * 32
        · rw [if_pos e4, if_pos e4, zU_n (by omega)]
        · rw [if_neg e4, if_neg e4]
          by_cases e5 : 544 + row * 32 ≤ j ∧ j < 544 + row * 32 + c
          · rw [if_pos e5, if_pos (by omega)]
          · rw [if_neg e5, if_neg (by omega)]
theorem pgF_0 {u : Int → Int} {row j : Int} (hr : 0 ≤ row ∧ row < 8) : u j = pgF u row (zd u row) 0 (u 6) j := by
  unfold pgF
  by_cases e3 : j = 6
  · rw [if_pos e3, e3]
  · rw [if_neg e3]
    by_cases e4 : 288 + row * 32 ≤ j ∧ j < 320 + row * 32
    · rw [if_pos e4]
      show u j = u (288 + (row * 32 + (j - (288 + row * 32))))
      congr 1
      omega
    · rw [if_neg e4, if_neg (by omega)]
theorem prN_f {per len col lot : Int} {p d T : Int → Int} (n : Nat) : (prN per p d T len col lot n).2.1 ≤ n := by
  induction n with
  | zero => exact Int.le_refl _
  | succ n ih =>
    unfold prN
    split
    · show (prN per p d T len col lot n).2.1 ≤ _; omega
    · split
      · show (prN per p d T len col lot n).2.1 + 1 ≤ _; omega
      · show (prN per p d T len col lot n).2.1 ≤ _; omega
/-- printed, seen -/
theorem rgt_print {u : Int → Int} {row per : Int} (h : UK u) (hr : 0 ≤ row ∧ row < 8) (hp : 6 ≤ per ∧ per ≤ 16) : rgtZ (printU (zU u 0 per) row) row = rprZ u row per := by
  have hz : ∀ k : Int, ¬ k = 0 → zU u 0 per k = u k := fun k e => zU_n e
  have e0 : ∀ k : Int, printU (zU u 0 per) row k = pgF (zU u 0 per) row (prtZ (zU u 0 per) row).1 32 (prtZ (zU u 0 per) row).2.2 k := fun k => printU_pg hr
  have s0 : printU (zU u 0 per) row 0 = per := by
    rw [e0]; unfold pgF; rw [if_neg (by omega), if_neg (by omega), if_neg (by omega), zU_s]
  have s2 : printU (zU u 0 per) row 2 = u 2 := by
    rw [e0]; unfold pgF; rw [if_neg (by omega), if_neg (by omega), if_neg (by omega), hz 2 (by omega)]
  have s3 : printU (zU u 0 per) row 3 = u 3 := by
    rw [e0]; unfold pgF; rw [if_neg (by omega), if_neg (by omega), if_neg (by omega), hz 3 (by omega)]
  have hT : ∀ k : Int, 0 ≤ k → k < 32 → (prtZ (zU u 0 per) row).1 k = (prZ per (zp u row) (zd u row) (fun j => u (8 + j)) (u 7) (u 1) (u 6) 32).1 k := by
    intro k a b
    unfold prtZ
    rw [zU_s, hz 7 (by omega), hz 1 (by omega), hz 6 (by omega)]
    have hzp : ∀ j : Int, 0 ≤ j → j < 32 → zp (zU u 0 per) row j = zp u row j := fun j c d => hz (32 + (row * 32 + j)) (by omega)
    exact (prZ_congr (per := per) (len := u 7) (col := u 1) (lot := u 6) (fun j c d => by rw [hzp j c d]; have := h.rp hr c d; omega) hzp (fun j c d => hz (288 + (row * 32 + j)) (by omega)) (fun j c d => hz (8 + j) (by omega)) 32 (Nat.le_refl _)).1 k a b
  unfold rgtZ rprZ
  refine zcnt_congr (fun k a b => ?_)
  have hpk : zp (printU (zU u 0 per) row) row k = zp u row k := by
    show printU (zU u 0 per) row (32 + (row * 32 + k)) = u (32 + (row * 32 + k))
    rw [e0]; unfold pgF; rw [if_neg (by omega), if_neg (by omega), if_neg (by omega), hz _ (by omega)]
  have hsk : seeR (printU (zU u 0 per) row) row k = seeZ per (u 2) (u 3) (prZ per (zp u row) (zd u row) (fun j => u (8 + j)) (u 7) (u 1) (u 6) 32).1 k := by
    unfold seeR
    rw [s0, s2, s3]
    refine seeZ_congr (fun j c d => ?_) hp.1
    show printU (zU u 0 per) row (288 + (row * 32 + j)) = _
    rw [e0]; unfold pgF; rw [if_neg (by omega), if_pos (by omega), show 288 + (row * 32 + j) - (288 + row * 32) = j by omega]
    exact hT j c d
  rw [hpk, hsk]
