/-! ===== what the numbers are: the terms of the document, row by row ===== -/
abbrev zT (cA cB : ClassId) : List (ClassId × FieldType) := [(cA, .int), (cB, .object "StripDepths$Sheet")]
/-- the column to which a place is bound; -4 if it is free -/
def zb (per : Int) (p : Int → Int) (c : Int) : Int := if 0 ≤ c - (per - p c) then c - (per - p c) else -4
theorem zb_b {per : Int} {p : Int → Int} {c : Int} (h : 0 ≤ c - (per - p c)) : zb per p c = c - (per - p c) := by
  unfold zb
  rw [if_pos h]
theorem zb_f {per : Int} {p : Int → Int} {c : Int} (h : c - (per - p c) < 0) : zb per p c = -4 := by
  unfold zb
  rw [if_neg (by omega)]
/-- a plane fits a place -/
def fitP (per win : Int) (d : Int → Int) (c q : Int) : Prop := per - q ≤ c ∧ ∀ k : Int, c - win ≤ k → k ≤ c + win → k ≤ 31 → per - q ≤ k → d k = d (k - (per - q))
/-- of those that keep to F the one that is the least away, of two the greater one; -4 if there is none -/
def Near (F : Int → Prop) (had r : Int) : Prop := (r = -4 ∧ ∀ q : Int, 0 ≤ q → q ≤ 4 → ¬ F q) ∨ (0 ≤ r ∧ r ≤ 4 ∧ F r ∧ ∀ q : Int, 0 ≤ q → q ≤ 4 → F q → max (r - had) (had - r) < max (q - had) (had - q) ∨ (max (r - had) (had - r) = max (q - had) (had - q) ∧ q ≤ r))
theorem Near.uniq {F : Int → Prop} {had r r2 : Int} (h : Near F had r) (h2 : Near F had r2) : r = r2 := by
  rcases h with ⟨a, b⟩ | ⟨a, b, e, g⟩ <;> rcases h2 with ⟨a2, b2⟩ | ⟨a2, b2, e2, g2⟩
  · omega
  · exact absurd e2 (b _ a2 b2)
  · exact absurd e (b2 _ a b)
  · have h1 := g _ a2 b2 e2
    have h3 := g2 _ a b e
    omega
noncomputable def nearF (F : Int → Prop) (had : Int) : Int := Classical.epsilon (Near F had)
theorem nearF_of {F : Int → Prop} {had r : Int} (h : Near F had r) : nearF F had = r := Near.uniq (Classical.epsilon_spec ⟨r, h⟩) h
/-- the plane that the eyes have ahead of a column -/
noncomputable def hadN (per win : Int) (d : Int → Int) : Nat → Int
  | 0 => 0
  | n + 1 => if nearF (fitP per win d (n : Int)) (hadN per win d n) = -4 then hadN per win d n else nearF (fitP per win d (n : Int)) (hadN per win d n)
noncomputable def hadZ (per win : Int) (d : Int → Int) (c : Int) : Int := hadN per win d c.toNat
/-- the plane that they take at a column; -4 -/
noncomputable def takZ (per win : Int) (d : Int → Int) (c : Int) : Int := nearF (fitP per win d c) (hadZ per win d c)
theorem hadZ_0 (per win : Int) (d : Int → Int) : hadZ per win d 0 = 0 := rfl
theorem hadZ_s (per win : Int) (d : Int → Int) {c : Int} (h : 0 ≤ c) : hadZ per win d (c + 1) = if takZ per win d c = -4 then hadZ per win d c else takZ per win d c := by
  obtain ⟨n, rfl⟩ := Int.eq_ofNat_of_zero_le h
  rfl
/-- the plane that is seen; -4 where it is blurred -/
noncomputable def seeZ (per win cr : Int) (d : Int → Int) (c : Int) : Int := if takZ per win d c = -4 then -4 else if cr = 1 then 4 - takZ per win d c else takZ per win d c
