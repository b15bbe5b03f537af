/-- a row put into a sheet -/
def putR (f F : Int → Int) (row : Int) : Int → Int := fun k => if row * 32 ≤ k ∧ k < row * 32 + 32 then f (k - row * 32) else F k
theorem putR_zC {f F : Int → Int} {row k : Int} : zC f F 0 (row * 32 + 0) 32 k = putR f F row k := by
  unfold zC putR
  rw [show row * 32 + 0 = row * 32 by omega]
  split
  · congr 1
    omega
  · rfl
theorem HR_new {past u : Int → Int} {n : Int} {kF kF2 : Nat → Nat → Int → Int} {kl kt kl2 kt2 : Nat → Int} (h : HR past n kF kl kt) (j : Nat) (hj : n = (j : Int)) (h4 : j < 4) (hnew : RelF u (kF2 j) (kl2 j) (kt2 j)) (hold : ∀ i : Nat, i < j → kF2 i = kF i ∧ kl2 i = kl i ∧ kt2 i = kt i) : HR (recP past u n) (n + 1) kF2 kl2 kt2 := by
  obtain ⟨h0, h1, h2⟩ := h
  refine ⟨by omega, by omega, fun i hi hin => ?_⟩
  by_cases e : i = j
  · subst e
    exact Rel_congr hnew (fun k a b => by show u k = recP past u n (800 * (i : Int) + k); rw [hj, recP_new (by omega) a b])
  · obtain ⟨e1, e2, e3⟩ := hold i (by omega)
    rw [e1, e2, e3]
    exact Rel_congr (h2 i hi (by omega)) (fun k a b => by show past (800 * (i : Int) + k) = recP past u n (800 * (i : Int) + k); rw [recP_old (by omega) (by omega) a b])
theorem HR_new4 {past u : Int → Int} {kF kF2 : Nat → Nat → Int → Int} {kl kt kl2 kt2 : Nat → Int} (h : HR past 4 kF kl kt) (hnew : RelF u (kF2 3) (kl2 3) (kt2 3)) (hold : ∀ i : Nat, i < 3 → kF2 i = kF (i + 1) ∧ kl2 i = kl (i + 1) ∧ kt2 i = kt (i + 1)) : HR (recP past u 4) 4 kF2 kl2 kt2 := by
  obtain ⟨h0, h1, h2⟩ := h
  refine ⟨by omega, by omega, fun i hi hin => ?_⟩
  by_cases e : i = 3
  · subst e
    exact Rel_congr hnew (fun k a b => by show u k = recP past u 4 (800 * ((3 : Nat) : Int) + k); rw [show ((3 : Nat) : Int) = 3 from rfl, recP_43 a b])
  · obtain ⟨e1, e2, e3⟩ := hold i (by omega)
    rw [e1, e2, e3]
    exact Rel_congr (h2 (i + 1) (by omega) (by omega)) (fun k a b => by show past (800 * ((i + 1 : Nat) : Int) + k) = recP past u 4 (800 * (i : Int) + k); rw [recP_4 (by omega) a b]; rfl)
theorem HR_back {past : Int → Int} {n : Int} {kF : Nat → Nat → Int → Int} {kl kt : Nat → Int} (h : HR past (n + 1) kF kl kt) (h0 : 0 ≤ n) : HR past n kF kl kt := ⟨h0, by have := h.2.1; omega, fun i hi hin => h.2.2 i hi (by omega)⟩
