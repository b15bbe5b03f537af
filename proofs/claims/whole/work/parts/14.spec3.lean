/-! ===== a sheet's numbers in one row of 800: 0 to 5 the settings, 6 the lot, 7 the strip's length, 8 on the strip, 32 on the planes, 288 on the dots, 544 on what smudges remember (0: none; one more than the dot) ===== -/
def RS (u S : Int → Int) : Prop := (S 0 = u 0 ∧ S 1 = u 1 ∧ S 2 = u 2 ∧ S 3 = u 3 ∧ S 4 = u 4 ∧ S 5 = u 5) ∧ (6 ≤ u 0 ∧ u 0 ≤ 16) ∧ (2 ≤ u 1 ∧ u 1 ≤ 8) ∧ (0 ≤ u 2 ∧ u 2 ≤ 3) ∧ (0 ≤ u 3 ∧ u 3 ≤ 1) ∧ (20 ≤ u 4 ∧ u 4 ≤ 99) ∧ (10 ≤ u 5 ∧ u 5 ≤ 400)
def RP (u P : Int → Int) : Prop := ∀ k : Int, 0 ≤ k → k < 256 → P k = u (32 + k) ∧ 0 ≤ u (32 + k) ∧ u (32 + k) ≤ 4
def RQ (u Q : Int → Int) : Prop := ∀ k : Int, 0 ≤ k → k < 256 → Q k = u (288 + k) ∧ 0 ≤ u (288 + k) ∧ u (288 + k) ≤ 7
def RM (u M : Int → Int) : Prop := ∀ k : Int, 0 ≤ k → k < 256 → (M k = -4 ∧ u (544 + k) = 0) ∨ (0 ≤ M k ∧ M k ≤ 7 ∧ u (544 + k) = M k + 1)
def RT (u T : Int → Int) (len : Int) : Prop := len = u 7 ∧ 0 ≤ len ∧ len ≤ 24 ∧ (∀ k : Int, 0 ≤ k → k < 24 → 0 ≤ T k ∧ T k ≤ 7) ∧ ∀ k : Int, 0 ≤ k → k < len → T k = u (8 + k)
def RL6 (u : Int → Int) (lot : Int) : Prop := lot = u 6 ∧ 0 ≤ lot ∧ lot ≤ 9999
/-- a sheet of the class holds u -/
def Rel (u S P Q M T : Int → Int) (len lot : Int) : Prop := RS u S ∧ RP u P ∧ RQ u Q ∧ RM u M ∧ RT u T len ∧ RL6 u lot
theorem Rel.S {u S P Q M T : Int → Int} {len lot : Int} (h : Rel u S P Q M T len lot) : RS u S := h.1
theorem Rel.P {u S P Q M T : Int → Int} {len lot : Int} (h : Rel u S P Q M T len lot) : RP u P := h.2.1
theorem Rel.Q {u S P Q M T : Int → Int} {len lot : Int} (h : Rel u S P Q M T len lot) : RQ u Q := h.2.2.1
theorem Rel.M {u S P Q M T : Int → Int} {len lot : Int} (h : Rel u S P Q M T len lot) : RM u M := h.2.2.2.1
theorem Rel.T {u S P Q M T : Int → Int} {len lot : Int} (h : Rel u S P Q M T len lot) : RT u T len := h.2.2.2.2.1
theorem Rel.L {u S P Q M T : Int → Int} {len lot : Int} (h : Rel u S P Q M T len lot) : RL6 u lot := h.2.2.2.2.2
/-- the rows of u: planes, dots, what is remembered (-4: nothing) -/
def zp (u : Int → Int) (row : Int) : Int → Int := fun k => u (32 + (row * 32 + k))
def zd (u : Int → Int) (row : Int) : Int → Int := fun k => u (288 + (row * 32 + k))
def zk (u : Int → Int) (row : Int) : Int → Int := fun k => if u (544 + (row * 32 + k)) = 0 then -4 else u (544 + (row * 32 + k)) - 1
theorem zp_of {u P : Int → Int} (h : RP u P) {row k : Int} (hr : 0 ≤ row ∧ row < 8) (h0 : 0 ≤ k) (h1 : k < 32) : P (row * 32 + k) = zp u row k ∧ 0 ≤ zp u row k ∧ zp u row k ≤ 4 := h (row * 32 + k) (by omega) (by omega)
theorem zd_of {u Q : Int → Int} (h : RQ u Q) {row k : Int} (hr : 0 ≤ row ∧ row < 8) (h0 : 0 ≤ k) (h1 : k < 32) : Q (row * 32 + k) = zd u row k ∧ 0 ≤ zd u row k ∧ zd u row k ≤ 7 := h (row * 32 + k) (by omega) (by omega)
theorem zk_of {u M : Int → Int} (h : RM u M) {row k : Int} (hr : 0 ≤ row ∧ row < 8) (h0 : 0 ≤ k) (h1 : k < 32) : M (row * 32 + k) = zk u row k ∧ -4 ≤ zk u row k ∧ zk u row k ≤ 7 := by
  have h2 := h (row * 32 + k) (by omega) (by omega)
  unfold zk
  split <;> omega
noncomputable def seeR (u : Int → Int) (row : Int) : Int → Int := seeZ (u 0) (u 2) (u 3) (zd u row)
noncomputable def bndR (u : Int → Int) (row : Int) : Int → Int := bndZ (u 0) (zp u row)
def chnR (u : Int → Int) (row : Int) : Int → Int := chZ (u 0) (zp u row)
noncomputable def kndR (u : Int → Int) (row kind : Int) : Int := zcnt (kindP (u 0) (zp u row) (zd u row) (zk u row) (seeR u row) (bndR u row) kind) 32
theorem Near_ex (F : Int → Prop) (had : Int) (hh : 0 ≤ had ∧ had ≤ 4) : ∃ r, Near F had r := by
  have key : ∀ n : Nat, (∃ r, Near F had r) ∨ ∀ q : Int, 0 ≤ q → q ≤ 4 → F q → (n : Int) ≤ max (q - had) (had - q) := by
    intro n
    induction n with
    | zero => exact Or.inr (fun q h0 h1 _ => by omega)
    | succ n ih =>
      rcases ih with ih | ih
      · exact Or.inl ih
      · by_cases h1 : had + n ≤ 4 ∧ F (had + n)
        · exact Or.inl ⟨had + n, Or.inr ⟨by omega, h1.1, h1.2, fun q a b e => by have := ih q a b e; omega⟩⟩
        · by_cases h2 : 0 ≤ had - n ∧ F (had - n)
          · refine Or.inl ⟨had - n, Or.inr ⟨h2.1, by omega, h2.2, fun q a b e => ?_⟩⟩
            have h3 := ih q a b e
            have h4 : ¬ q = had + n := fun z => h1 ⟨by omega, by rw [← z]; exact e⟩
            omega
          · refine Or.inr (fun q a b e => ?_)
            have h3 := ih q a b e
            have h4 : ¬ q = had + n := fun z => h1 ⟨by omega, by rw [← z]; exact e⟩
            have h5 : ¬ q = had - n := fun z => h2 ⟨by omega, by rw [← z]; exact e⟩
            omega
  rcases key 6 with h | h
  · exact h
  · exact ⟨-4, Or.inl ⟨rfl, fun q a b e => by have := h q a b e; omega⟩⟩
theorem hadZ_r (per win : Int) (d : Int → Int) (c : Int) : 0 ≤ hadZ per win d c ∧ hadZ per win d c ≤ 4 := by
  unfold hadZ
  generalize c.toNat = n
  induction n with
  | zero => exact ⟨Int.le_refl _, by show (0 : Int) ≤ 4; omega⟩
  | succ n ih =>
    have h := nearF_r (fitP per win d (n : Int)) (hadN per win d n) (Near_ex _ _ ih)
    show 0 ≤ (if nearF (fitP per win d (n : Int)) (hadN per win d n) = -4 then hadN per win d n else nearF (fitP per win d (n : Int)) (hadN per win d n)) ∧ (if nearF (fitP per win d (n : Int)) (hadN per win d n) = -4 then hadN per win d n else nearF (fitP per win d (n : Int)) (hadN per win d n)) ≤ 4
    split <;> omega
theorem takZ_r (per win : Int) (d : Int → Int) (c : Int) : takZ per win d c = -4 ∨ (0 ≤ takZ per win d c ∧ takZ per win d c ≤ 4) := nearF_r _ _ (Near_ex _ _ (hadZ_r per win d c))
theorem seeZ_r (per win cr : Int) (d : Int → Int) (c : Int) : seeZ per win cr d c = -4 ∨ (0 ≤ seeZ per win cr d c ∧ seeZ per win cr d c ≤ 4) := by
  have h := takZ_r per win d c
  unfold seeZ
  (repeat' split) <;> omega
theorem seeR_r (u : Int → Int) (row k : Int) : seeR u row k = -4 ∨ (0 ≤ seeR u row k ∧ seeR u row k ≤ 4) := seeZ_r _ _ _ _ _
theorem bndZ_r (per : Int) (p : Int → Int) (k : Int) : 0 ≤ bndZ per p k ∧ bndZ per p k ≤ 32 := zcnt_r _ (by omega)
theorem zb_congr {per : Int} {p p' : Int → Int} {c : Int} (h : p c = p' c) : zb per p c = zb per p' c := by unfold zb; rw [h]
theorem bndZ_congr {per k : Int} {p p' : Int → Int} (h : ∀ k : Int, 0 ≤ k → k < 32 → p k = p' k) : bndZ per p k = bndZ per p' k := by
  unfold bndZ
  exact zcnt_congr (fun j h0 h1 => by rw [zb_congr (h j h0 h1)])
theorem chZ_congr {per c : Int} {p p' : Int → Int} (h : ∀ k : Int, 0 ≤ k → k < 32 → p k < per) (h2 : ∀ k : Int, 0 ≤ k → k < 32 → p k = p' k) (hc : 0 ≤ c ∧ c < 32) : chZ per p c = chZ per p' c := chN_congr h h2 32 c hc.1 hc.2
theorem chZ_r {per c : Int} {p : Int → Int} (h : ∀ k : Int, 0 ≤ k → k < 32 → p k < per) (hc : 0 ≤ c ∧ c < 32) : 0 ≤ chZ per p c ∧ chZ per p c < 32 := chN_r h 32 c hc.1 hc.2
theorem kindP_congr {per kind c : Int} {p d mm sn bd p' d' mm' sn' bd' : Int → Int} (hc : 0 ≤ c ∧ c < 32) (hpr : ∀ k : Int, 0 ≤ k → k < 32 → p k < per) (h1 : ∀ k : Int, 0 ≤ k → k < 32 → p k = p' k) (h2 : ∀ k : Int, 0 ≤ k → k < 32 → d k = d' k) (h3 : mm c = mm' c) (h4 : sn c = sn' c) (h5 : bd c = bd' c) : kindP per p d mm sn bd kind c ↔ kindP per p' d' mm' sn' bd' kind c := by
  have e := zb_congr (per := per) (h1 c hc.1 hc.2)
  have e2 := zb_r (hpr c hc.1 hc.2)
  unfold kindP
  rw [← e, ← h1 c hc.1 hc.2, ← h2 c hc.1 hc.2, ← h3, ← h4, ← h5]
  rcases e2 with e2 | e2
  · rw [e2]; simp
  · rw [← h2 (zb per p c) e2.1 (by omega)]
theorem Rel_congr {u v S P Q M T : Int → Int} {len lot : Int} (h : Rel u S P Q M T len lot) (e : ∀ k : Int, 0 ≤ k → k < 800 → u k = v k) : Rel v S P Q M T len lot := by
  obtain ⟨hS, hP, hQ, hM, hT, hL⟩ := h
  refine ⟨?_, fun k h0 h1 => ?_, fun k h0 h1 => ?_, fun k h0 h1 => ?_, ?_, ?_⟩
  · unfold RS at *
    rw [← e 0 (by omega) (by omega), ← e 1 (by omega) (by omega), ← e 2 (by omega) (by omega), ← e 3 (by omega) (by omega), ← e 4 (by omega) (by omega), ← e 5 (by omega) (by omega)]
    exact hS
  · rw [← e _ (by omega) (by omega)]; exact hP k h0 h1
  · rw [← e _ (by omega) (by omega)]; exact hQ k h0 h1
  · rw [← e _ (by omega) (by omega)]; exact hM k h0 h1
  · unfold RT at *
    refine ⟨by rw [← e 7 (by omega) (by omega)]; exact hT.1, hT.2.1, hT.2.2.1, hT.2.2.2.1, fun k h0 h1 => ?_⟩
    have := hT.2.2.1
    rw [← e _ (by omega) (by omega)]; exact hT.2.2.2.2 k h0 h1
  · unfold RL6 at *
    rw [← e 6 (by omega) (by omega)]; exact hL
/-- five functions, four things in a bundle -/
def zF5 {α : Type} (a b c d e : α) : Nat → α
  | 0 => a
  | 1 => b
  | 2 => c
  | 3 => d
  | _ => e
def zK4 {α : Type} (a b c d : α) : Nat → α
  | 0 => a
  | 1 => b
  | 2 => c
  | _ => d
def RelF (u : Int → Int) (F : Nat → Int → Int) (len lot : Int) : Prop := Rel u (F 3) (F 0) (F 1) (F 2) (F 4) len lot
/-- the history of the class holds the rows of 800 of past -/
def HR (past : Int → Int) (stt : Int) (kF : Nat → Nat → Int → Int) (kl kt : Nat → Int) : Prop := 0 ≤ stt ∧ stt ≤ 4 ∧ ∀ i : Nat, i < 4 → (i : Int) < stt → RelF (fun k => past (800 * (i : Int) + k)) (kF i) (kl i) (kt i)
/-- what a change records -/
def recP (past u : Int → Int) (n : Int) : Int → Int := fun k => if n = 4 then (if k < 2400 then past (800 + k) else u (k - 2400)) else if 800 * n ≤ k ∧ k < 800 * n + 800 then u (k - 800 * n) else past k
theorem recP_old {past u : Int → Int} {n i k : Int} (hn : n < 4) (hi : i < n) (h0 : 0 ≤ k) (h1 : k < 800) : recP past u n (800 * i + k) = past (800 * i + k) := by
  unfold recP
  rw [if_neg (by omega), if_neg (by omega)]
theorem recP_new {past u : Int → Int} {n k : Int} (hn : n < 4) (h0 : 0 ≤ k) (h1 : k < 800) : recP past u n (800 * n + k) = u k := by
  unfold recP
  rw [if_neg (by omega), if_pos (by omega)]
  congr 1
  omega
theorem recP_4 {past u : Int → Int} {i k : Int} (hi : i < 3) (h0 : 0 ≤ k) (h1 : k < 800) : recP past u 4 (800 * i + k) = past (800 * (i + 1) + k) := by
  unfold recP
  rw [if_pos rfl, if_pos (by omega)]
  congr 1
  omega
theorem recP_43 {past u : Int → Int} {k : Int} (h0 : 0 ≤ k) (h1 : k < 800) : recP past u 4 (800 * 3 + k) = u k := by
  unfold recP
  rw [if_pos rfl, if_neg (by omega)]
  congr 1
  omega
theorem zC_00 {f g : Int → Int} {n k : Int} (h0 : 0 ≤ k) (h1 : k < n) : zC f g 0 0 n k = f k := by
  rw [zC_in h0 (by omega)]
  congr 1
  omega
theorem Rel_pt {u S P Q M T S2 P2 Q2 M2 T2 : Int → Int} {len lot : Int} (h : Rel u S P Q M T len lot) (hS : ∀ k : Int, 0 ≤ k → k < 6 → S2 k = S k) (hP : ∀ k : Int, 0 ≤ k → k < 256 → P2 k = P k) (hQ : ∀ k : Int, 0 ≤ k → k < 256 → Q2 k = Q k) (hM : ∀ k : Int, 0 ≤ k → k < 256 → M2 k = M k) (hT : ∀ k : Int, 0 ≤ k → k < 24 → T2 k = T k) : Rel u S2 P2 Q2 M2 T2 len lot := by
  obtain ⟨h1, h2, h3, h4, h5, h6⟩ := h
  refine ⟨?_, fun k a b => by rw [hP k a b]; exact h2 k a b, fun k a b => by rw [hQ k a b]; exact h3 k a b, fun k a b => by rw [hM k a b]; exact h4 k a b, ⟨h5.1, h5.2.1, h5.2.2.1, fun k a b => by rw [hT k a b]; exact h5.2.2.2.1 k a b, fun k a b => ?_⟩, h6⟩
  · unfold RS at *
    rw [hS 0 (by omega) (by omega), hS 1 (by omega) (by omega), hS 2 (by omega) (by omega), hS 3 (by omega) (by omega), hS 4 (by omega) (by omega), hS 5 (by omega) (by omega)]
    exact h1
  · have := h5.2.2.1
    rw [hT k a (by omega)]; exact h5.2.2.2.2 k a b
