/-- a change of the plane that is seen -/
def chgP (sn : Int → Int) (k : Int) : Prop := ¬ sn k = -4 ∧ ¬ lastZ sn k = -4 ∧ ¬ sn k = lastZ sn k
/-- what 'plane' counts of one row -/
noncomputable def numW (p sn : Int → Int) (q w : Int) : Int := if w = 0 then zcnt (fun k => p k = q) 32 else if w = 1 then zcnt (fun k => sn k = q) 32 else if w = 2 then zcnt (fun k => p k = q ∧ sn k = q) 32 else if 0 < zcnt (fun k => p k = q) 32 then 1 else 0
theorem zmod_s {a b : Int} (h : 0 < b) : (a + 1) % b = if a % b + 1 < b then a % b + 1 else 0 := by
  have h1 := Int.emod_add_mul_ediv a b
  have h2 := Int.emod_nonneg a (show b ≠ 0 by omega)
  have h3 := Int.emod_lt_of_pos a h
  have e : (a + 1) % b = (a % b + 1) % b := by
    have : a + 1 = (a % b + 1) + b * (a / b) := by omega
    rw [this, Int.add_mul_emod_self_left]
  rw [e]
  split
  · exact Int.emod_eq_of_lt (by omega) (by assumption)
  · rw [show a % b + 1 = b by omega, Int.emod_self]
theorem zmod_r (a : Int) {b : Int} (h : 0 < b) : 0 ≤ a % b ∧ a % b < b := ⟨Int.emod_nonneg a (by omega), Int.emod_lt_of_pos a h⟩
