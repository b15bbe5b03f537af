/-! ===== the reference's reader against the stages ===== -/
def nxt (cd : Int → Int) (ml sp : Int) : Int := if sp < ml then cd sp else 0
abbrev DG (cd : Int → Int) (ml sp wr lo hi r sp2 wr2 : Int) : Prop := r = nxt cd ml sp - 48 ∧ ((wr = 0 ∧ lo ≤ r ∧ r ≤ hi ∧ wr2 = 0 ∧ sp2 = sp + 1 ∧ sp < ml) ∨ (¬ (wr = 0 ∧ lo ≤ r ∧ r ≤ hi) ∧ wr2 = 1 ∧ sp2 = sp))
abbrev WT (cd : Int → Int) (ml sp wr sg sp2 wr2 : Int) : Prop := (wr = 0 ∧ nxt cd ml sp = sg ∧ wr2 = 0 ∧ sp2 = sp + 1 ∧ sp < ml) ∨ (¬ (wr = 0 ∧ nxt cd ml sp = sg) ∧ wr2 = 1 ∧ sp2 = sp)
abbrev CL (cd : Int → Int) (ml sp wr low r sp2 wr2 : Int) : Prop := (¬ (wr = 0 ∧ (48 ≤ nxt cd ml sp ∧ nxt cd ml sp ≤ 57) ∧ low ≤ grt (nxt cd ml sp - 48)) ∧ wr2 = 1 ∧ sp2 = sp) ∨ (wr = 0 ∧ (48 ≤ nxt cd ml sp ∧ nxt cd ml sp ≤ 57) ∧ low ≤ grt (nxt cd ml sp - 48) ∧ sp < ml ∧ ((((48 ≤ nxt cd ml (sp + 1) ∧ nxt cd ml (sp + 1) ≤ 57) ∧ 0 < nxt cd ml sp - 48 ∧ low ≤ 10 * (nxt cd ml sp - 48) + (nxt cd ml (sp + 1) - 48) ∧ 10 * (nxt cd ml sp - 48) + (nxt cd ml (sp + 1) - 48) ≤ 31) ∧ wr2 = 0 ∧ sp2 = sp + 2 ∧ sp + 1 < ml ∧ r = 10 * (nxt cd ml sp - 48) + (nxt cd ml (sp + 1) - 48)) ∨ (¬ ((48 ≤ nxt cd ml (sp + 1) ∧ nxt cd ml (sp + 1) ≤ 57) ∧ 0 < nxt cd ml sp - 48 ∧ low ≤ 10 * (nxt cd ml sp - 48) + (nxt cd ml (sp + 1) - 48) ∧ 10 * (nxt cd ml sp - 48) + (nxt cd ml (sp + 1) - 48) ≤ 31) ∧ sp2 = sp + 1 ∧ r = nxt cd ml sp - 48 ∧ ((wr2 = 1 ∧ r < low) ∨ (wr2 = 0 ∧ low ≤ r)))))
/-- the reader is at a stage, from s0 on nothing laid; or it has met the fault -/
def MP (cd : Int → Int) (ml s0 sp wr t b e r q g : Int) : Prop := (wr = 0 ∧ s0 ≤ sp ∧ sp ≤ ml ∧ rnZ cd sp = some (t, b, e, r, q, g) ∧ ∀ U, drZ cd U sp = drZ cd U s0) ∨ (wr = 1 ∧ s0 ≤ sp ∧ sp ≤ ml ∧ FS cd ml sp)
def MQz (cd : Int → Int) (ml s0 sp wr t b e r q : Int) : Prop := (wr = 0 ∧ s0 < sp ∧ sp ≤ ml ∧ rnZ cd sp = some (t, b, e, r, q, 9) ∧ ∀ U, drZ cd U sp = layU (drZ cd U s0) t e b r q) ∨ (wr = 1 ∧ s0 ≤ sp ∧ sp ≤ ml ∧ FS cd ml sp)
theorem nxt_in {cd : Int → Int} {ml sp : Int} (h : sp < ml) : nxt cd ml sp = cd sp := by unfold nxt; rw [if_pos h]
theorem nxt_lt {cd : Int → Int} {ml sp : Int} (h : ¬ nxt cd ml sp = 0) : sp < ml := by
  unfold nxt at h
  split at h
  · assumption
  · exact absurd rfl h
theorem MP_fault {cd : Int → Int} {ml sp t b e r q g : Int} (h0 : 0 ≤ sp) (h1 : sp ≤ ml) (hr : rnZ cd sp = some (t, b, e, r, q, g)) (hg : ¬ g = 9) (hs : stp (t, b, e, r, q, g) (nxt cd ml sp) = none) : FS cd ml sp := by
  by_cases c : sp < ml
  · rw [nxt_in c] at hs
    exact Or.inl ⟨h0, c, _, hr, hs⟩
  · obtain rfl : sp = ml := by omega
    exact Or.inr (Or.inl ⟨rfl, _, _, _, _, _, _, hr, hg⟩)
theorem MP_go {cd : Int → Int} {ml s0 sp t b e r q g t2 b2 e2 r2 q2 g2 : Int} (h0 : 0 ≤ s0) (h1 : s0 ≤ sp) (h2 : sp < ml) (hr : rnZ cd sp = some (t, b, e, r, q, g)) (hd : ∀ U, drZ cd U sp = drZ cd U s0) (hs : stp (t, b, e, r, q, g) (nxt cd ml sp) = some (t2, b2, e2, r2, q2, g2)) (hg : ¬ g2 = 9) : rnZ cd (sp + 1) = some (t2, b2, e2, r2, q2, g2) ∧ ∀ U, drZ cd U (sp + 1) = drZ cd U s0 := by
  rw [nxt_in h2] at hs
  have h3 := (rnZ_s (by omega) hr).trans hs
  exact ⟨h3, fun U => by rw [drZ_s (by omega) h3, if_neg hg]; exact hd U⟩
theorem MP_top {cd : Int → Int} {ml s0 sp wr t b e r q d sp2 wr2 : Int} (h0 : 0 ≤ s0) (h : MP cd ml s0 sp wr t b e r q 0) (hd : DG cd ml sp wr 0 7 d sp2 wr2) : MP cd ml s0 sp2 wr2 d d e r q 1 := by
  obtain ⟨rfl, hd⟩ := hd
  rcases h with ⟨w, a1, a2, a3, a4⟩ | ⟨w, a1, a2, a3⟩
  · rcases hd with ⟨-, d1, d2, rfl, rfl, d3⟩ | ⟨d1, rfl, rfl⟩
    · obtain ⟨g1, g2⟩ := MP_go h0 a1 d3 a3 a4 (stp0.trans (if_pos (by omega))) (by omega)
      exact Or.inl ⟨rfl, by omega, by omega, g1, g2⟩
    · exact Or.inr ⟨rfl, a1, a2, MP_fault (by omega) a2 a3 (by omega) (stp0.trans (if_neg (by omega)))⟩
  · rcases hd with ⟨d0, -⟩ | ⟨d1, rfl, rfl⟩
    · omega
    · exact Or.inr ⟨rfl, a1, a2, a3⟩
theorem MP_dash1 {cd : Int → Int} {ml s0 sp wr t b e r q : Int} (h0 : 0 ≤ s0) (h : MP cd ml s0 sp wr t b e r q 1) (hd : wr = 0 ∧ nxt cd ml sp = 45) : MP cd ml s0 (sp + 1) wr t b e r q 2 := by
  rcases h with ⟨w, a1, a2, a3, a4⟩ | ⟨w, a1, a2, a3⟩
  · have d3 := nxt_lt (cd := cd) (ml := ml) (sp := sp) (by omega)
    obtain ⟨g1, g2⟩ := MP_go h0 a1 d3 a3 a4 (stp1.trans (if_pos (by omega))) (by omega)
    exact Or.inl ⟨w, by omega, by omega, g1, g2⟩
  · omega
theorem MP_bot {cd : Int → Int} {ml s0 sp wr t b e r q d sp2 wr2 : Int} (h0 : 0 ≤ s0) (ht : wr = 0 → 0 ≤ t) (h : MP cd ml s0 sp wr t b e r q 2) (hd : DG cd ml sp wr t 7 d sp2 wr2) : MP cd ml s0 sp2 wr2 t d e r q 3 := by
  obtain ⟨rfl, hd⟩ := hd
  rcases h with ⟨w, a1, a2, a3, a4⟩ | ⟨w, a1, a2, a3⟩
  · have := ht w
    rcases hd with ⟨-, d1, d2, rfl, rfl, d3⟩ | ⟨d1, rfl, rfl⟩
    · obtain ⟨g1, g2⟩ := MP_go h0 a1 d3 a3 a4 (stp2.trans (if_pos (by omega))) (by omega)
      exact Or.inl ⟨rfl, by omega, by omega, g1, g2⟩
    · exact Or.inr ⟨rfl, a1, a2, MP_fault (by omega) a2 a3 (by omega) (stp2.trans (if_neg (by omega)))⟩
  · rcases hd with ⟨d0, -⟩ | ⟨d1, rfl, rfl⟩
    · omega
    · exact Or.inr ⟨rfl, a1, a2, a3⟩
theorem MP_comma1 {cd : Int → Int} {ml s0 sp wr t b e r q sp2 wr2 : Int} (h0 : 0 ≤ s0) (h : MP cd ml s0 sp wr t b e r q 1) (hn : ¬ (wr = 0 ∧ nxt cd ml sp = 45)) (hd : WT cd ml sp wr 44 sp2 wr2) : MP cd ml s0 sp2 wr2 t b e r q 4 := by
  rcases h with ⟨w, a1, a2, a3, a4⟩ | ⟨w, a1, a2, a3⟩
  · rcases hd with ⟨-, d1, rfl, rfl, d3⟩ | ⟨d1, rfl, rfl⟩
    · obtain ⟨g1, g2⟩ := MP_go h0 a1 d3 a3 a4 (stp1.trans ((if_neg (by omega)).trans (if_pos (by omega)))) (by omega)
      exact Or.inl ⟨rfl, by omega, by omega, g1, g2⟩
    · exact Or.inr ⟨rfl, a1, a2, MP_fault (by omega) a2 a3 (by omega) (stp1.trans ((if_neg (by omega)).trans (if_neg (by omega))))⟩
  · rcases hd with ⟨d0, -⟩ | ⟨d1, rfl, rfl⟩
    · omega
    · exact Or.inr ⟨rfl, a1, a2, a3⟩
theorem MP_comma3 {cd : Int → Int} {ml s0 sp wr t b e r q sp2 wr2 : Int} (h0 : 0 ≤ s0) (h : MP cd ml s0 sp wr t b e r q 3) (hd : WT cd ml sp wr 44 sp2 wr2) : MP cd ml s0 sp2 wr2 t b e r q 4 := by
  rcases h with ⟨w, a1, a2, a3, a4⟩ | ⟨w, a1, a2, a3⟩
  · rcases hd with ⟨-, d1, rfl, rfl, d3⟩ | ⟨d1, rfl, rfl⟩
    · obtain ⟨g1, g2⟩ := MP_go h0 a1 d3 a3 a4 (stp3.trans (if_pos (by omega))) (by omega)
      exact Or.inl ⟨rfl, by omega, by omega, g1, g2⟩
    · exact Or.inr ⟨rfl, a1, a2, MP_fault (by omega) a2 a3 (by omega) (stp3.trans (if_neg (by omega)))⟩
  · rcases hd with ⟨d0, -⟩ | ⟨d1, rfl, rfl⟩
    · omega
    · exact Or.inr ⟨rfl, a1, a2, a3⟩
/-- no digit goes on -/
abbrev ND5 (cd : Int → Int) (ml sp e : Int) : Prop := ¬ ((48 ≤ nxt cd ml sp ∧ nxt cd ml sp ≤ 57) ∧ 0 < e ∧ 10 * e + (nxt cd ml sp - 48) ≤ 31)
abbrev ND7 (cd : Int → Int) (ml sp e r : Int) : Prop := ¬ ((48 ≤ nxt cd ml sp ∧ nxt cd ml sp ≤ 57) ∧ ¬ r = 0 ∧ 10 * r + (nxt cd ml sp - 48) ≤ 31 ∧ e ≤ 10 * r + (nxt cd ml sp - 48))
theorem MP_left {cd : Int → Int} {ml s0 sp wr t b e r q d sp2 wr2 : Int} (h0 : 0 ≤ s0) (h : MP cd ml s0 sp wr t b e r q 4) (hd : CL cd ml sp wr 0 d sp2 wr2) : MP cd ml s0 sp2 wr2 t b d d q 5 ∧ (wr2 = 0 → ND5 cd ml sp2 d ∧ 0 ≤ d ∧ d ≤ 31) := by
  have hg : ∀ x : Int, 0 ≤ x → 0 ≤ grt x := fun x a => by unfold grt; split <;> omega
  rcases h with ⟨w, a1, a2, a3, a4⟩ | ⟨w, a1, a2, a3⟩
  · rcases hd with ⟨d1, rfl, rfl⟩ | ⟨-, d1, d2, d3, d4⟩
    · have := hg (nxt cd ml sp2 - 48)
      exact ⟨Or.inr ⟨rfl, a1, a2, MP_fault (by omega) a2 a3 (by omega) (stp4.trans (if_neg (by omega)))⟩, fun z => by omega⟩
    · obtain ⟨g1, g2⟩ := MP_go h0 a1 d3 a3 a4 (stp4.trans (if_pos (by omega))) (by omega)
      rcases d4 with ⟨c1, rfl, rfl, c2, c3⟩ | ⟨c1, rfl, rfl, c3⟩
      · obtain ⟨g3, g4⟩ := MP_go h0 (show s0 ≤ sp + 1 by omega) c2 g1 g2 (stp5.trans ((if_neg (by omega)).trans ((if_neg (by omega)).trans (if_pos (by omega))))) (by omega)
        rw [show sp + 2 = sp + 1 + 1 by omega, c3]
        exact ⟨Or.inl ⟨rfl, by omega, by omega, g3, g4⟩, fun _ => ⟨by omega, by omega, by omega⟩⟩
      · rcases c3 with ⟨rfl, c3⟩ | ⟨rfl, c3⟩
        · omega
        · exact ⟨Or.inl ⟨rfl, by omega, by omega, g1, g2⟩, fun _ => ⟨by omega, by omega, by omega⟩⟩
  · rcases hd with ⟨d1, rfl, rfl⟩ | ⟨d0, -⟩
    · exact ⟨Or.inr ⟨rfl, a1, a2, a3⟩, fun z => by omega⟩
    · omega
theorem MP_dash5 {cd : Int → Int} {ml s0 sp wr t b e r q : Int} (h0 : 0 ≤ s0) (h : MP cd ml s0 sp wr t b e r q 5) (hd : wr = 0 ∧ nxt cd ml sp = 45) : MP cd ml s0 (sp + 1) wr t b e r q 6 := by
  rcases h with ⟨w, a1, a2, a3, a4⟩ | ⟨w, a1, a2, a3⟩
  · have d3 := nxt_lt (cd := cd) (ml := ml) (sp := sp) (by omega)
    obtain ⟨g1, g2⟩ := MP_go h0 a1 d3 a3 a4 (stp5.trans (if_pos (by omega))) (by omega)
    exact Or.inl ⟨w, by omega, by omega, g1, g2⟩
  · omega
theorem MP_right {cd : Int → Int} {ml s0 sp wr t b e r q d sp2 wr2 : Int} (h0 : 0 ≤ s0) (h : MP cd ml s0 sp wr t b e r q 6) (hd : CL cd ml sp wr e d sp2 wr2) : MP cd ml s0 sp2 wr2 t b e d q 7 ∧ (wr2 = 0 → (ND7 cd ml sp2 e d ∧ e ≤ d) ∧ 0 ≤ d ∧ d ≤ 31) := by
  have hg : ∀ x : Int, 0 ≤ x → x ≤ 9 → 0 ≤ grt x ∧ grt x ≤ 31 := fun x a c => by unfold grt; split <;> omega
  rcases h with ⟨w, a1, a2, a3, a4⟩ | ⟨w, a1, a2, a3⟩
  · rcases hd with ⟨d1, rfl, rfl⟩ | ⟨-, d1, d2, d3, d4⟩
    · exact ⟨Or.inr ⟨rfl, a1, a2, MP_fault (by omega) a2 a3 (by omega) (stp6.trans (if_neg (fun z => d1 ⟨w, z.1, z.2⟩)))⟩, fun z => by omega⟩
    · obtain ⟨g1, g2⟩ := MP_go h0 a1 d3 a3 a4 (stp6.trans (if_pos ⟨d1, d2⟩)) (by omega)
      rcases d4 with ⟨c1, rfl, rfl, c2, c3⟩ | ⟨c1, rfl, rfl, c3⟩
      · obtain ⟨g3, g4⟩ := MP_go h0 (show s0 ≤ sp + 1 by omega) c2 g1 g2 (stp7.trans ((if_neg (by omega)).trans (if_pos (by omega)))) (by omega)
        rw [show sp + 2 = sp + 1 + 1 by omega, c3]
        exact ⟨Or.inl ⟨rfl, by omega, by omega, g3, g4⟩, fun _ => ⟨⟨by omega, by omega⟩, by omega, by omega⟩⟩
      · rcases c3 with ⟨rfl, c3⟩ | ⟨rfl, c3⟩
        · refine ⟨Or.inr ⟨rfl, by omega, by omega, MP_fault (by omega) (by omega) g1 (by omega) ?_⟩, fun z => by omega⟩
          rw [stp7]
          (repeat' split) <;> first | rfl | (exfalso; omega)
        · exact ⟨Or.inl ⟨rfl, by omega, by omega, g1, g2⟩, fun _ => ⟨⟨by omega, by omega⟩, by omega, by omega⟩⟩
  · rcases hd with ⟨d1, rfl, rfl⟩ | ⟨d0, -⟩
    · exact ⟨Or.inr ⟨rfl, a1, a2, a3⟩, fun z => by omega⟩
    · omega
theorem MP_colon5 {cd : Int → Int} {ml s0 sp wr t b e r q sp2 wr2 : Int} (h0 : 0 ≤ s0) (h : MP cd ml s0 sp wr t b e r q 5) (hnd : wr = 0 → ND5 cd ml sp e) (hn : ¬ (wr = 0 ∧ nxt cd ml sp = 45)) (hd : WT cd ml sp wr 58 sp2 wr2) : MP cd ml s0 sp2 wr2 t b e r q 8 := by
  rcases h with ⟨w, a1, a2, a3, a4⟩ | ⟨w, a1, a2, a3⟩
  · have hn2 := hnd w
    rcases hd with ⟨-, d1, rfl, rfl, d3⟩ | ⟨d1, rfl, rfl⟩
    · obtain ⟨g1, g2⟩ := MP_go h0 a1 d3 a3 a4 (stp5.trans ((if_neg (by omega)).trans (if_pos (by omega)))) (by omega)
      exact Or.inl ⟨rfl, by omega, by omega, g1, g2⟩
    · exact Or.inr ⟨rfl, a1, a2, MP_fault (by omega) a2 a3 (by omega) (stp5.trans ((if_neg (by omega)).trans ((if_neg (by omega)).trans (if_neg hn2))))⟩
  · rcases hd with ⟨d0, -⟩ | ⟨d1, rfl, rfl⟩
    · omega
    · exact Or.inr ⟨rfl, a1, a2, a3⟩
theorem MP_colon7 {cd : Int → Int} {ml s0 sp wr t b e r q sp2 wr2 : Int} (h0 : 0 ≤ s0) (h : MP cd ml s0 sp wr t b e r q 7) (hnd : wr = 0 → ND7 cd ml sp e r ∧ e ≤ r) (hd : WT cd ml sp wr 58 sp2 wr2) : MP cd ml s0 sp2 wr2 t b e r q 8 := by
  rcases h with ⟨w, a1, a2, a3, a4⟩ | ⟨w, a1, a2, a3⟩
  · have hn2 := hnd w
    rcases hd with ⟨-, d1, rfl, rfl, d3⟩ | ⟨d1, rfl, rfl⟩
    · obtain ⟨g1, g2⟩ := MP_go h0 a1 d3 a3 a4 (stp7.trans ((if_pos (by omega)).trans (if_pos hn2.2))) (by omega)
      exact Or.inl ⟨rfl, by omega, by omega, g1, g2⟩
    · exact Or.inr ⟨rfl, a1, a2, MP_fault (by omega) a2 a3 (by omega) (stp7.trans ((if_neg (by omega)).trans (if_neg hn2.1)))⟩
  · rcases hd with ⟨d0, -⟩ | ⟨d1, rfl, rfl⟩
    · omega
    · exact Or.inr ⟨rfl, a1, a2, a3⟩
theorem MP_plane {cd : Int → Int} {ml s0 sp wr t b e r q d sp2 wr2 : Int} (h0 : 0 ≤ s0) (h : MP cd ml s0 sp wr t b e r q 8) (hd : DG cd ml sp wr 0 4 d sp2 wr2) : MQz cd ml s0 sp2 wr2 t b e r d ∧ (wr2 = 0 → 0 ≤ d ∧ d ≤ 4) := by
  obtain ⟨rfl, hd⟩ := hd
  rcases h with ⟨w, a1, a2, a3, a4⟩ | ⟨w, a1, a2, a3⟩
  · rcases hd with ⟨-, d1, d2, rfl, rfl, d3⟩ | ⟨d1, rfl, rfl⟩
    · have h3 : rnZ cd (sp + 1) = some (t, b, e, r, nxt cd ml sp - 48, 9) := by
        have h4 := rnZ_s (by omega) a3
        rw [h4, stp8, ← nxt_in (cd := cd) (ml := ml) (sp := sp) d3, if_pos (by omega)]
      refine ⟨Or.inl ⟨rfl, by omega, by omega, h3, fun U => ?_⟩, fun _ => ⟨by omega, by omega⟩⟩
      rw [drZ_s (by omega) h3, if_pos rfl, a4]
    · exact ⟨Or.inr ⟨rfl, a1, a2, MP_fault (by omega) a2 a3 (by omega) (stp8.trans (if_neg (by omega)))⟩, fun z => by omega⟩
  · rcases hd with ⟨d0, -⟩ | ⟨d1, rfl, rfl⟩
    · omega
    · exact ⟨Or.inr ⟨rfl, a1, a2, a3⟩, fun z => by omega⟩
theorem MP_stop {cd : Int → Int} {ml s0 sp wr t b e r q : Int} (hl : 0 ≤ ml) (h : MQz cd ml s0 sp wr t b e r q) (hw : wr = 1) : fsZ cd ml = sp := by
  rcases h with ⟨w, -⟩ | ⟨w, a1, a2, a3⟩
  · omega
  · exact fsZ_of hl a3
theorem nxt_r {cd : Int → Int} {ml sp : Int} (hl : 0 ≤ ml ∧ ml ≤ 80) (hs : 0 ≤ sp) (hc : ∀ k : Int, 0 ≤ k → k < 80 → 0 ≤ cd k ∧ cd k ≤ 126) : 0 ≤ nxt cd ml sp ∧ nxt cd ml sp ≤ 126 := by
  unfold nxt
  split
  · exact hc sp hs (by omega)
  · omega
/-- one shape more -/
theorem MQ_semi {cd : Int → Int} {ml s0 sp wr t b e r q sp2 wr2 : Int} (h0 : 0 ≤ s0) (h : MQz cd ml s0 sp wr t b e r q) (hw : wr = 0) (hlt : sp < ml) (hd : WT cd ml sp wr 59 sp2 wr2) : (wr2 = 0 ∧ sp2 = sp + 1 ∧ sp < ml ∧ s0 < sp ∧ rnZ cd sp2 = some (t, b, e, r, q, 0) ∧ ∀ U, drZ cd U sp2 = layU (drZ cd U s0) t e b r q) ∨ (wr2 = 1 ∧ sp2 = sp ∧ s0 < sp ∧ FS cd ml sp2) := by
  rcases h with ⟨w, a1, a2, a3, a4⟩ | ⟨w, a1, a2, a3⟩
  · rcases hd with ⟨-, d1, rfl, rfl, d3⟩ | ⟨d1, rfl, rfl⟩
    · have h4 := rnZ_s (by omega) a3
      rw [stp9, ← nxt_in (cd := cd) (ml := ml) (sp := sp) d3, if_pos (by omega)] at h4
      exact Or.inl ⟨rfl, rfl, d3, a1, h4, fun U => by rw [drZ_s (by omega) h4, if_neg (by omega)]; exact a4 U⟩
    · refine Or.inr ⟨rfl, rfl, a1, Or.inl ⟨by omega, hlt, _, a3, ?_⟩⟩
      rw [stp9, ← nxt_in (cd := cd) (ml := ml) (sp := sp2) hlt, if_neg (by omega)]
  · omega
theorem MQ_end {cd : Int → Int} {ml s0 sp wr t b e r q : Int} (hl : 0 ≤ ml) (h : MQz cd ml s0 sp wr t b e r q) (hw : wr = 0) (hs : ¬ sp < ml) : fsZ cd ml = -4 ∧ sp = ml ∧ ∀ U, drZ cd U ml = layU (drZ cd U s0) t e b r q := by
  rcases h with ⟨w, a1, a2, a3, a4⟩ | ⟨w, a1, a2, a3⟩
  · obtain rfl : sp = ml := by omega
    exact ⟨fsZ_of hl (Or.inr (Or.inr ⟨rfl, _, _, _, _, _, a3⟩)), rfl, a4⟩
  · omega
theorem layU_pt {u v : Int → Int} {t e b r q j : Int} (h : u j = v j) : layU u t e b r q j = layU v t e b r q j := by
  unfold layU
  split
  · rfl
  · exact h
theorem drN_r {cd u : Int → Int} (h : UK u) : ∀ n : Nat, UK (drN cd u n) ∧ ∀ t b e r q g, rn cd n = some (t, b, e, r, q, g) → Zok t b e r q g := by
  intro n
  induction n with
  | zero =>
    refine ⟨h, fun t b e r q g hh => ?_⟩
    have h1 : some (0, 0, 0, 0, 0, 0) = some (t, b, e, r, q, g) := hh
    simp only [Option.some.injEq, Prod.mk.injEq] at h1
    omega
  | succ n ih =>
    obtain ⟨h1, h2⟩ := ih
    have h3 : ∀ t b e r q g, rn cd (n + 1) = some (t, b, e, r, q, g) → Zok t b e r q g := by
      intro t b e r q g hh
      cases hq : rn cd n with
      | none => rw [rn_none hq (n + 1) (by omega)] at hh; cases hh
      | some z =>
        obtain ⟨t1, b1, e1, r1, q1, g1⟩ := z
        have h4 : rn cd (n + 1) = stp (t1, b1, e1, r1, q1, g1) (cd (n : Int)) := by unfold rn; rw [hq]
        rw [h4] at hh
        exact stp_ok (h2 _ _ _ _ _ _ hq) hh
    refine ⟨?_, h3⟩
    rw [drN]
    cases hq : rn cd (n + 1) with
    | none => exact h1
    | some z =>
      obtain ⟨t, b, e, r, q, g⟩ := z
      have h5 := h3 _ _ _ _ _ _ hq
      show UK (if g = 9 then layU (drN cd u n) t e b r q else drN cd u n)
      split
      · exact UK_lay h1 (by omega)
      · exact h1
theorem UK_dr {cd u : Int → Int} (h : UK u) (c : Int) : UK (drZ cd u c) := (drN_r h c.toNat).1
