/-! ===== what the changes do ===== -/
noncomputable def vI {α : Type} (V : Prop) (a b : α) : α := @ite α V (Classical.propDecidable V) a b
theorem vI_t {α : Type} {V : Prop} {a b : α} (h : V) : vI V a b = a := by
  unfold vI
  exact if_pos h
theorem vI_f {α : Type} {V : Prop} {a b : α} (h : ¬ V) : vI V a b = b := by
  unfold vI
  exact if_neg h
def nxS (stt : Int) : Int := if stt = 4 then 4 else stt + 1
theorem RS_c {u v S : Int → Int} (h : RS u S) (e : ∀ k : Int, 0 ≤ k → k < 6 → v k = u k) : RS v S := by
  unfold RS at *
  rw [e 0 (by omega) (by omega), e 1 (by omega) (by omega), e 2 (by omega) (by omega), e 3 (by omega) (by omega), e 4 (by omega) (by omega), e 5 (by omega) (by omega)]
  exact h
theorem RP_c {u v P : Int → Int} (h : RP u P) (e : ∀ k : Int, 32 ≤ k → k < 288 → v k = u k) : RP v P := fun k a b => by
  rw [e _ (by omega) (by omega)]; exact h k a b
theorem RQ_c {u v P : Int → Int} (h : RQ u P) (e : ∀ k : Int, 288 ≤ k → k < 544 → v k = u k) : RQ v P := fun k a b => by
  rw [e _ (by omega) (by omega)]; exact h k a b
theorem RM_c {u v P : Int → Int} (h : RM u P) (e : ∀ k : Int, 544 ≤ k → k < 800 → v k = u k) : RM v P := fun k a b => by
  rw [e _ (by omega) (by omega)]; exact h k a b
theorem RT_c {u v T : Int → Int} {len : Int} (h : RT u T len) (e : ∀ k : Int, 7 ≤ k → k < 32 → v k = u k) : RT v T len := by
  have h2 := h.2.2.1
  exact ⟨by rw [e 7 (by omega) (by omega)]; exact h.1, h.2.1, h.2.2.1, h.2.2.2.1, fun k a b => by rw [e _ (by omega) (by omega)]; exact h.2.2.2.2 k a b⟩
theorem RL_c {u v : Int → Int} {lot : Int} (h : RL6 u lot) (e : v 6 = u 6) : RL6 v lot := by
  unfold RL6 at *
  rw [e]; exact h
/-! lay -/
abbrev vLay (top left bottom right pl : Int) : Prop := (0 ≤ top ∧ top < 8) ∧ (0 ≤ left ∧ left < 32) ∧ (top ≤ bottom ∧ bottom < 8) ∧ (left ≤ right ∧ right < 32) ∧ (0 ≤ pl ∧ pl < 5)
def layU (u : Int → Int) (top left bottom right pl : Int) : Int → Int := fun k => if (32 ≤ k ∧ k < 288) ∧ (top ≤ (k - 32) / 32 ∧ (k - 32) / 32 ≤ bottom) ∧ (left ≤ k % 32 ∧ k % 32 ≤ right) then pl else u k
theorem Rel_lay {u S P Q M T P2 : Int → Int} {len lot top left bottom right pl : Int} (h : Rel u S P Q M T len lot) (hp : 0 ≤ pl ∧ pl ≤ 4) (h2 : ∀ k : Int, 0 ≤ k → k < 256 → P2 k = if (top ≤ k / 32 ∧ k / 32 ≤ bottom ∧ left ≤ k % 32 ∧ k % 32 ≤ right) then pl else P k) : Rel (layU u top left bottom right pl) S P2 Q M T len lot := by
  refine ⟨RS_c h.S (fun k a b => ?_), fun k a b => ?_, RQ_c h.Q (fun k a b => ?_), RM_c h.M (fun k a b => ?_), RT_c h.T (fun k a b => ?_), RL_c h.L ?_⟩
  · unfold layU; rw [if_neg (by omega)]
  · have h3 := h.P k a b
    rw [h2 k a b]
    unfold layU
    by_cases q : top ≤ k / 32 ∧ k / 32 ≤ bottom ∧ left ≤ k % 32 ∧ k % 32 ≤ right
    · rw [if_pos q, if_pos (by omega)]; omega
    · rw [if_neg q, if_neg (by omega)]; exact h3
  · unfold layU; rw [if_neg (by omega)]
  · unfold layU; rw [if_neg (by omega)]
  · unfold layU; rw [if_neg (by omega)]
  · unfold layU; rw [if_neg (by omega)]
noncomputable def difP (v u : Int → Int) (from_ : Int) : Int := zcnt (fun k => ¬ v (from_ + k) = u (from_ + k)) 256
noncomputable def ansLay (u : Int → Int) (top left bottom right pl : Int) : Int := vI (vLay top left bottom right pl) (difP (layU u top left bottom right pl) u 32) (-1)
/-- the state that is recorded last -/
theorem HR_last {past u : Int → Int} {stt stt2 : Int} {kF : Nat → Nat → Int → Int} {kl kt : Nat → Int} (h0 : HR past stt kF kl kt) (h : HR (recP past u stt) stt2 kF kl kt) : True := trivial
theorem HR_lastP {past u : Int → Int} {stt stt2 : Int} {kF : Nat → Nat → Int → Int} {kl kt : Nat → Int} (h : HR (recP past u stt) stt2 kF kl kt) (h1 : 0 ≤ stt ∧ stt ≤ 4) (h2 : stt2 = nxS stt) (i : Nat) (hi : stt2 = (i : Int) + 1) : RelF u (kF i) (kl i) (kt i) := by
  unfold nxS at h2
  have h3 := h.2.2 i (by split at h2 <;> omega) (by omega)
  refine Rel_congr h3 (fun k a b => ?_)
  show recP past u stt (800 * (i : Int) + k) = u k
  by_cases q : stt = 4
  · rw [if_pos q] at h2
    rw [q, show (i : Int) = 3 by omega]
    exact recP_43 a b
  · rw [if_neg q] at h2
    rw [show (i : Int) = stt by omega]
    exact recP_new (by omega) a b
theorem difP_of {v u P P2 : Int → Int} {o : Int} (h1 : ∀ k : Int, 0 ≤ k → k < 256 → P k = v (o + k)) (h2 : ∀ k : Int, 0 ≤ k → k < 256 → P2 k = u (o + k)) : zcnt (fun k => ¬ P k = P2 k) 256 = difP v u o := zcnt_congr (fun k a b => by rw [h1 k a b, h2 k a b])
theorem RP_e {u P : Int → Int} (h : RP u P) : ∀ k : Int, 0 ≤ k → k < 256 → P k = u (32 + k) := fun k a b => (h k a b).1
theorem RP_7 {u P : Int → Int} (h : RP u P) : ∀ k : Int, 0 ≤ k → k < 256 → -4 ≤ P k ∧ P k ≤ 7 := fun k a b => by have := h k a b; omega
theorem RQ_e {u P : Int → Int} (h : RQ u P) : ∀ k : Int, 0 ≤ k → k < 256 → P k = u (288 + k) := fun k a b => (h k a b).1
theorem RQ_7 {u P : Int → Int} (h : RQ u P) : ∀ k : Int, 0 ≤ k → k < 256 → -4 ≤ P k ∧ P k ≤ 7 := fun k a b => by have := h k a b; omega
/-! shift -/
abbrev vShift (row sh : Int) : Prop := (0 ≤ row ∧ row < 8) ∧ (-31 ≤ sh ∧ sh ≤ 31)
def shv (u : Int → Int) (row sh j : Int) : Int := if 0 ≤ j - sh ∧ j - sh < 32 then zp u row (j - sh) else 0
def shiftU (u : Int → Int) (row sh : Int) : Int → Int := fun k => if 32 + row * 32 ≤ k ∧ k < 64 + row * 32 then shv u row sh (k - (32 + row * 32)) else u k
theorem Rel_shift {u S P Q M T P2 : Int → Int} {len lot row sh : Int} (h : Rel u S P Q M T len lot) (hr : 0 ≤ row ∧ row < 8) (h2 : ∀ k : Int, 0 ≤ k → k < 256 → P2 k = if row * 32 ≤ k ∧ k < row * 32 + 32 then shv u row sh (k - row * 32) else P k) : Rel (shiftU u row sh) S P2 Q M T len lot := by
  refine ⟨RS_c h.S (fun k a b => ?_), fun k a b => ?_, RQ_c h.Q (fun k a b => ?_), RM_c h.M (fun k a b => ?_), RT_c h.T (fun k a b => ?_), RL_c h.L ?_⟩
  · unfold shiftU; rw [if_neg (by omega)]
  · have h3 := h.P k a b
    rw [h2 k a b]
    unfold shiftU
    by_cases q : row * 32 ≤ k ∧ k < row * 32 + 32
    · rw [if_pos q, if_pos (by omega), show 32 + k - (32 + row * 32) = k - row * 32 by omega]
      refine ⟨rfl, ?_⟩
      unfold shv
      split
      · exact (zp_of h.P hr (by omega) (by omega)).2
      · omega
    · rw [if_neg q, if_neg (by omega)]; exact h3
  · unfold shiftU; rw [if_neg (by omega)]
  · unfold shiftU; rw [if_neg (by omega)]
  · unfold shiftU; rw [if_neg (by omega)]
  · unfold shiftU; rw [if_neg (by omega)]
noncomputable def ansShift (u : Int → Int) (row sh : Int) : Int := vI (vShift row sh) (zcnt (fun j => 0 < shv u row sh j) 32) (-1)
/-! swap -/
abbrev vSwap (row q : Int) : Prop := (0 ≤ row ∧ row < 8) ∧ (0 ≤ q ∧ q < 8) ∧ ¬ row = q
def swapU (u : Int → Int) (row q : Int) : Int → Int := fun k => if (32 ≤ k ∧ k < 800) ∧ (k / 32 - 1) % 8 = row then u (k + (q - row) * 32) else if (32 ≤ k ∧ k < 800) ∧ (k / 32 - 1) % 8 = q then u (k + (row - q) * 32) else u k
theorem swapU_lo {u : Int → Int} {row q k : Int} (h : k < 32) : swapU u row q k = u k := by unfold swapU; rw [if_neg (by omega), if_neg (by omega)]
theorem Rel_swap {u S P Q M T p d m pg dg mg P2 Q2 M2 : Int → Int} {len lot row q : Int} (h : Rel u S P Q M T len lot) (hr : 0 ≤ row ∧ row < 8) (hq : 0 ≤ q ∧ q < 8) (hne : ¬ row = q)
    (e1 : ∀ k : Int, 0 ≤ k → k < 32 → p k = zp u row k) (e2 : ∀ k : Int, 0 ≤ k → k < 32 → d k = zd u row k) (e3 : ∀ k : Int, 0 ≤ k → k < 32 → m k = zk u row k)
    (g1 : ∀ k : Int, 0 ≤ k → k < 32 → pg k = zp u q k) (g2 : ∀ k : Int, 0 ≤ k → k < 32 → dg k = zd u q k) (g3 : ∀ k : Int, 0 ≤ k → k < 32 → mg k = zk u q k)
    (f1 : ∀ k : Int, 0 ≤ k → k < 256 → P2 k = if row * 32 ≤ k ∧ k < row * 32 + 32 then pg (k - row * 32) else if q * 32 ≤ k ∧ k < q * 32 + 32 then p (k - q * 32) else P k)
    (f2 : ∀ k : Int, 0 ≤ k → k < 256 → Q2 k = if row * 32 ≤ k ∧ k < row * 32 + 32 then dg (k - row * 32) else if q * 32 ≤ k ∧ k < q * 32 + 32 then d (k - q * 32) else Q k)
    (f3 : ∀ k : Int, 0 ≤ k → k < 256 → M2 k = if row * 32 ≤ k ∧ k < row * 32 + 32 then mg (k - row * 32) else if q * 32 ≤ k ∧ k < q * 32 + 32 then m (k - q * 32) else M k) : Rel (swapU u row q) S P2 Q2 M2 T len lot := by
  refine ⟨RS_c h.S (fun k a b => swapU_lo (by omega)), fun k a b => ?_, fun k a b => ?_, fun k a b => ?_, RT_c h.T (fun k a b => swapU_lo (by omega)), RL_c h.L (swapU_lo (by omega))⟩
  · rw [f1 k a b]
    unfold swapU
    by_cases c1 : row * 32 ≤ k ∧ k < row * 32 + 32
    · rw [if_pos c1, if_pos (by omega), g1 _ (by omega) (by omega)]
      have := zp_of h.P hq (k := k - row * 32) (by omega) (by omega)
      rw [show 32 + k + (q - row) * 32 = 32 + (q * 32 + (k - row * 32)) by omega]
      exact ⟨rfl, this.2⟩
    · rw [if_neg c1, if_neg (c := (32 ≤ 32 + k ∧ 32 + k < 800) ∧ ((32 + k) / 32 - 1) % 8 = row) (by omega)]
      by_cases c2 : q * 32 ≤ k ∧ k < q * 32 + 32
      · rw [if_pos c2, if_pos (by omega), e1 _ (by omega) (by omega)]
        have := zp_of h.P hr (k := k - q * 32) (by omega) (by omega)
        rw [show 32 + k + (row - q) * 32 = 32 + (row * 32 + (k - q * 32)) by omega]
        exact ⟨rfl, this.2⟩
      · rw [if_neg c2, if_neg (by omega)]
        exact h.P k a b
  · rw [f2 k a b]
    unfold swapU
    by_cases c1 : row * 32 ≤ k ∧ k < row * 32 + 32
    · rw [if_pos c1, if_pos (by omega), g2 _ (by omega) (by omega)]
      have := zd_of h.Q hq (k := k - row * 32) (by omega) (by omega)
      rw [show 288 + k + (q - row) * 32 = 288 + (q * 32 + (k - row * 32)) by omega]
      exact ⟨rfl, this.2⟩
    · rw [if_neg c1, if_neg (c := (32 ≤ 288 + k ∧ 288 + k < 800) ∧ ((288 + k) / 32 - 1) % 8 = row) (by omega)]
      by_cases c2 : q * 32 ≤ k ∧ k < q * 32 + 32
      · rw [if_pos c2, if_pos (by omega), e2 _ (by omega) (by omega)]
        have := zd_of h.Q hr (k := k - q * 32) (by omega) (by omega)
        rw [show 288 + k + (row - q) * 32 = 288 + (row * 32 + (k - q * 32)) by omega]
        exact ⟨rfl, this.2⟩
      · rw [if_neg c2, if_neg (by omega)]
        exact h.Q k a b
  · rw [f3 k a b]
    unfold swapU
    by_cases c1 : row * 32 ≤ k ∧ k < row * 32 + 32
    · rw [if_pos c1, if_pos (by omega), g3 _ (by omega) (by omega)]
      have := h.M (q * 32 + (k - row * 32)) (by omega) (by omega)
      rw [show 544 + k + (q - row) * 32 = 544 + (q * 32 + (k - row * 32)) by omega]
      unfold zk
      split <;> omega
    · rw [if_neg c1, if_neg (c := (32 ≤ 544 + k ∧ 544 + k < 800) ∧ ((544 + k) / 32 - 1) % 8 = row) (by omega)]
      by_cases c2 : q * 32 ≤ k ∧ k < q * 32 + 32
      · rw [if_pos c2, if_pos (by omega), e3 _ (by omega) (by omega)]
        have := h.M (row * 32 + (k - q * 32)) (by omega) (by omega)
        rw [show 544 + k + (row - q) * 32 = 544 + (row * 32 + (k - q * 32)) by omega]
        unfold zk
        split <;> omega
      · rw [if_neg c2, if_neg (by omega)]
        exact h.M k a b
noncomputable def ansSwap (u : Int → Int) (row q : Int) : Int := vI (vSwap row q) (zcnt (fun k => ¬ zp u row k = zp u q k) 32) (-1)
/-! a row that is put: its planes, dots, what it remembers -/
def putU (u p d m : Int → Int) (row : Int) : Int → Int := fun k => if 32 + row * 32 ≤ k ∧ k < 64 + row * 32 then p (k - (32 + row * 32)) else if 288 + row * 32 ≤ k ∧ k < 320 + row * 32 then d (k - (288 + row * 32)) else if 544 + row * 32 ≤ k ∧ k < 576 + row * 32 then m (k - (544 + row * 32)) else u k
theorem Rel_put {u S P Q M T p d m n P2 Q2 M2 : Int → Int} {len lot row : Int} (h : Rel u S P Q M T len lot) (hr : 0 ≤ row ∧ row < 8)
    (e1 : ∀ k : Int, 0 ≤ k → k < 32 → 0 ≤ p k ∧ p k ≤ 4) (e2 : ∀ k : Int, 0 ≤ k → k < 32 → 0 ≤ d k ∧ d k ≤ 7) (e3 : ∀ k : Int, 0 ≤ k → k < 32 → (m k = -4 ∧ n k = 0) ∨ (0 ≤ m k ∧ m k ≤ 7 ∧ n k = m k + 1))
    (f1 : ∀ k : Int, P2 k = putR p P row k) (f2 : ∀ k : Int, Q2 k = putR d Q row k) (f3 : ∀ k : Int, M2 k = putR m M row k) : Rel (putU u p d n row) S P2 Q2 M2 T len lot := by
  have lo : ∀ k : Int, k < 32 → putU u p d n row k = u k := fun k a => by unfold putU; rw [if_neg (by omega), if_neg (by omega), if_neg (by omega)]
  refine ⟨RS_c h.S (fun k a b => lo k (by omega)), fun k a b => ?_, fun k a b => ?_, fun k a b => ?_, RT_c h.T (fun k a b => lo k (by omega)), RL_c h.L (lo 6 (by omega))⟩
  · rw [f1 k]
    unfold putU putR
    by_cases c1 : row * 32 ≤ k ∧ k < row * 32 + 32
    · rw [if_pos c1, if_pos (by omega), show 32 + k - (32 + row * 32) = k - row * 32 by omega]
      exact ⟨rfl, e1 _ (by omega) (by omega)⟩
    · rw [if_neg c1, if_neg (by omega), if_neg (by omega), if_neg (by omega)]
      exact h.P k a b
  · rw [f2 k]
    unfold putU putR
    by_cases c1 : row * 32 ≤ k ∧ k < row * 32 + 32
    · rw [if_pos c1, if_neg (by omega), if_pos (by omega), show 288 + k - (288 + row * 32) = k - row * 32 by omega]
      exact ⟨rfl, e2 _ (by omega) (by omega)⟩
    · rw [if_neg c1, if_neg (by omega), if_neg (by omega), if_neg (by omega)]
      exact h.Q k a b
  · rw [f3 k]
    unfold putU putR
    by_cases c1 : row * 32 ≤ k ∧ k < row * 32 + 32
    · rw [if_pos c1, if_neg (by omega), if_neg (by omega), if_pos (by omega), show 544 + k - (544 + row * 32) = k - row * 32 by omega]
      exact e3 _ (by omega) (by omega)
    · rw [if_neg c1, if_neg (by omega), if_neg (by omega), if_neg (by omega)]
      exact h.M k a b
/-! turn -/
abbrev vRow (row : Int) : Prop := 0 ≤ row ∧ row < 8
def turnU (u : Int → Int) (row : Int) : Int → Int := putU u (fun k => zp u row (31 - k)) (fun k => zd u row (31 - k)) (fun k => u (544 + (row * 32 + (31 - k)))) row
noncomputable def rgtZ (u : Int → Int) (row : Int) : Int := zcnt (fun k => seeR u row k = zp u row k) 32
theorem kndR_4 (u : Int → Int) (row : Int) : kndR u row 4 = rgtZ u row := knd4
noncomputable def ansTurn (u : Int → Int) (row : Int) : Int := vI (vRow row) (rgtZ (turnU u row) row) (-1)
theorem putR_congr {f g F : Int → Int} {row k : Int} (h : ∀ k : Int, 0 ≤ k → k < 32 → f k = g k) : putR f F row k = putR g F row k := by
  unfold putR
  split
  · exact h _ (by omega) (by omega)
  · rfl
theorem Rel_turn {u S P Q M T p d m P2 Q2 M2 : Int → Int} {len lot row : Int} (h : Rel u S P Q M T len lot) (hr : 0 ≤ row ∧ row < 8)
    (e1 : ∀ k : Int, 0 ≤ k → k < 32 → p k = zp u row (31 - k)) (e2 : ∀ k : Int, 0 ≤ k → k < 32 → d k = zd u row (31 - k)) (e3 : ∀ k : Int, 0 ≤ k → k < 32 → m k = zk u row (31 - k))
    (f1 : ∀ k : Int, P2 k = putR p P row k) (f2 : ∀ k : Int, Q2 k = putR d Q row k) (f3 : ∀ k : Int, M2 k = putR m M row k) : Rel (turnU u row) S P2 Q2 M2 T len lot := by
  refine Rel_put (m := fun k => zk u row (31 - k)) h hr (fun k a b => (zp_of h.P hr (by omega) (by omega)).2) (fun k a b => (zd_of h.Q hr (by omega) (by omega)).2) (fun k a b => ?_) (fun k => (f1 k).trans (putR_congr e1)) (fun k => (f2 k).trans (putR_congr e2)) (fun k => (f3 k).trans (putR_congr e3))
  have h2 := h.M (row * 32 + (31 - k)) (by omega) (by omega)
  show (zk u row (31 - k) = -4 ∧ u (544 + (row * 32 + (31 - k))) = 0) ∨ (0 ≤ zk u row (31 - k) ∧ zk u row (31 - k) ≤ 7 ∧ u (544 + (row * 32 + (31 - k))) = zk u row (31 - k) + 1)
  unfold zk
  split <;> omega
/-! print -/
noncomputable def prtZ (u : Int → Int) (row : Int) : (Int → Int) × Int × Int := prZ (u 0) (zp u row) (zd u row) (fun j => u (8 + j)) (u 7) (u 1) (u 6) 32
noncomputable def printU (u : Int → Int) (row : Int) : Int → Int := zU (putU u (zp u row) (prtZ u row).1 (fun _ => 0) row) 6 (prtZ u row).2.2
noncomputable def printN (u : Int → Int) : Nat → Int → Int
  | 0 => u
  | n + 1 => printU (printN u n) (n : Int)
noncomputable def printC (u : Int → Int) (c : Int) : Int → Int := printN u c.toNat
theorem printC_s (u : Int → Int) {c : Int} (h : 0 ≤ c) : printC u (c + 1) = printU (printC u c) c := by
  obtain ⟨n, rfl⟩ := Int.eq_ofNat_of_zero_le h
  rfl
noncomputable def ansPrint (u : Int → Int) (row : Int) : Int := vI (vRow row) (difP (printU u row) u 288) (-1)
theorem Rel_lot {u S P Q M T : Int → Int} {len lot x : Int} (h : Rel u S P Q M T len lot) (hx : 0 ≤ x ∧ x ≤ 9999) : Rel (zU u 6 x) S P Q M T len x := by
  refine ⟨RS_c h.S (fun k a b => zU_n (by omega)), RP_c h.P (fun k a b => zU_n (by omega)), RQ_c h.Q (fun k a b => zU_n (by omega)), RM_c h.M (fun k a b => zU_n (by omega)), RT_c h.T (fun k a b => zU_n (by omega)), ?_⟩
  exact ⟨(zU_s u 6 x).symm, hx⟩
/-! paint, wipe -/
abbrev vPaint (row col dot : Int) : Prop := (0 ≤ row ∧ row < 8) ∧ (0 ≤ col ∧ col < 32) ∧ (0 ≤ dot ∧ dot < 8)
def paintU (u : Int → Int) (row col dot : Int) : Int → Int := fun k => if k = 288 + (row * 32 + col) then dot else if k = 544 + (row * 32 + col) ∧ u k = 0 then u (288 + (row * 32 + col)) + 1 else u k
noncomputable def ansPaint (u : Int → Int) (row col dot : Int) : Int := vI (vPaint row col dot) (u (288 + (row * 32 + col))) (-1)
theorem Rel_paint {u S P Q M T Q2 M2 : Int → Int} {len lot row col dot : Int} (h : Rel u S P Q M T len lot) (hv : vPaint row col dot) (f2 : ∀ k : Int, 0 ≤ k → k < 256 → Q2 k = if k = row * 32 + col then dot else Q k) (f3 : ∀ k : Int, 0 ≤ k → k < 256 → M2 k = if k = row * 32 + col ∧ M k = -4 then Q (row * 32 + col) else M k) : Rel (paintU u row col dot) S P Q2 M2 T len lot := by
  have lo : ∀ k : Int, k < 288 → paintU u row col dot k = u k := fun k a => by unfold paintU; rw [if_neg (by omega), if_neg (by omega)]
  refine ⟨RS_c h.S (fun k a b => lo k (by omega)), RP_c h.P (fun k a b => lo k (by omega)), fun k a b => ?_, fun k a b => ?_, RT_c h.T (fun k a b => lo k (by omega)), RL_c h.L (lo 6 (by omega))⟩
  · have h2 := h.Q k a b
    rw [f2 k a b]
    unfold paintU
    by_cases c1 : k = row * 32 + col
    · rw [if_pos c1, if_pos (by omega)]; omega
    · rw [if_neg c1, if_neg (by omega), if_neg (by omega)]; exact h2
  · have h2 := h.M k a b
    have h3 := h.Q (row * 32 + col) (by omega) (by omega)
    rw [f3 k a b]
    unfold paintU
    rw [if_neg (c := 544 + k = 288 + (row * 32 + col)) (by omega)]
    by_cases c1 : k = row * 32 + col ∧ M k = -4
    · rw [if_pos c1, if_pos (by omega)]; omega
    · rw [if_neg c1, if_neg (by omega)]; exact h2
def wipeU (u : Int → Int) (row : Int) : Int → Int := fun k => if (288 + row * 32 ≤ k ∧ k < 320 + row * 32) ∧ 0 < u (k + 256) then u (k + 256) - 1 else if 544 + row * 32 ≤ k ∧ k < 576 + row * 32 then 0 else u k
noncomputable def ansWipe (u : Int → Int) (row : Int) : Int := vI (vRow row) (zcnt (fun k => 0 < u (544 + (row * 32 + k))) 32) (-1)
theorem Rel_wipe {u S P Q M T Q2 M2 : Int → Int} {len lot row : Int} (h : Rel u S P Q M T len lot) (hv : vRow row) (f2 : ∀ k : Int, 0 ≤ k → k < 256 → Q2 k = if (row * 32 ≤ k ∧ k < row * 32 + 32) ∧ ¬ M k = -4 then M k else Q k) (f3 : ∀ k : Int, 0 ≤ k → k < 256 → M2 k = if row * 32 ≤ k ∧ k < row * 32 + 32 then -4 else M k) : Rel (wipeU u row) S P Q2 M2 T len lot := by
  have lo : ∀ k : Int, k < 288 → wipeU u row k = u k := fun k a => by unfold wipeU; rw [if_neg (by omega), if_neg (by omega)]
  refine ⟨RS_c h.S (fun k a b => lo k (by omega)), RP_c h.P (fun k a b => lo k (by omega)), fun k a b => ?_, fun k a b => ?_, RT_c h.T (fun k a b => lo k (by omega)), RL_c h.L (lo 6 (by omega))⟩
  · have h2 := h.Q k a b
    have h3 := h.M k a b
    rw [f2 k a b]
    unfold wipeU
    rw [show 288 + k + 256 = 544 + k by omega]
    by_cases c1 : (row * 32 ≤ k ∧ k < row * 32 + 32) ∧ ¬ M k = -4
    · rw [if_pos c1, if_pos (by omega)]; omega
    · rw [if_neg c1, if_neg (by omega), if_neg (by omega)]; exact h2
  · have h3 := h.M k a b
    rw [f3 k a b]
    unfold wipeU
    rw [if_neg (c := (288 + row * 32 ≤ 544 + k ∧ 544 + k < 320 + row * 32) ∧ 0 < u (544 + k + 256)) (by omega)]
    by_cases c1 : row * 32 ≤ k ∧ k < row * 32 + 32
    · rw [if_pos c1, if_pos (by omega)]; omega
    · rw [if_neg c1, if_neg (by omega)]; exact h3
/-! set, lot, unwind -/
theorem zU_or (f : Int → Int) (i v j : Int) : (j = i ∧ zU f i v j = v) ∨ (¬ j = i ∧ zU f i v j = f j) := by
  by_cases q : j = i
  · exact Or.inl ⟨q, by rw [q, zU_s]⟩
  · exact Or.inr ⟨q, zU_n q⟩
abbrev vSet (wh x : Int) : Prop := (wh = 0 ∧ 6 ≤ x ∧ x ≤ 16) ∨ (wh = 1 ∧ 2 ≤ x ∧ x ≤ 8) ∨ (wh = 2 ∧ 0 ≤ x ∧ x ≤ 3) ∨ (wh = 3 ∧ 0 ≤ x ∧ x ≤ 1) ∨ (wh = 4 ∧ 20 ≤ x ∧ x ≤ 99) ∨ (wh = 5 ∧ 10 ≤ x ∧ x ≤ 400)
noncomputable def ansSet (u : Int → Int) (wh x : Int) : Int := vI (vSet wh x) (u wh) (-1)
theorem Rel_set {u S P Q M T : Int → Int} {len lot wh x : Int} (h : Rel u S P Q M T len lot) (hv : vSet wh x) : Rel (zU u wh x) (zU S wh x) P Q M T len lot := by
  have hw : 0 ≤ wh ∧ wh ≤ 5 := by omega
  refine ⟨?_, RP_c h.P (fun k a b => zU_n (by omega)), RQ_c h.Q (fun k a b => zU_n (by omega)), RM_c h.M (fun k a b => zU_n (by omega)), RT_c h.T (fun k a b => zU_n (by omega)), RL_c h.L (zU_n (by omega))⟩
  have h1 := h.S
  have e : ∀ j : Int, S j = u j → zU S wh x j = zU u wh x j := fun j e => by
    unfold zU
    split
    · rfl
    · exact e
  obtain ⟨⟨e0, e1, e2, e3, e4, e5⟩, r0, r1, r2, r3, r4, r5⟩ := h1
  have q0 := zU_or u wh x 0
  have q1 := zU_or u wh x 1
  have q2 := zU_or u wh x 2
  have q3 := zU_or u wh x 3
  have q4 := zU_or u wh x 4
  have q5 := zU_or u wh x 5
  exact ⟨⟨e 0 e0, e 1 e1, e 2 e2, e 3 e3, e 4 e4, e 5 e5⟩, by omega, by omega, by omega, by omega, by omega, by omega⟩
abbrev vLot (x : Int) : Prop := 0 ≤ x ∧ x < 10000
noncomputable def ansLot (u : Int → Int) (x : Int) : Int := vI (vLot x) (u 6) (-1)
abbrev vUnw (u : Int → Int) : Prop := ¬ u 7 = 0
noncomputable def ansUnw (u : Int → Int) : Int := vI (vUnw u) (u 7) (-2)
theorem Rel_unw {u S P Q M T : Int → Int} {len lot : Int} (h : Rel u S P Q M T len lot) : Rel (zU u 7 0) S P Q M T 0 lot :=
  ⟨RS_c h.S (fun k a b => zU_n (by omega)), RP_c h.P (fun k a b => zU_n (by omega)), RQ_c h.Q (fun k a b => zU_n (by omega)), RM_c h.M (fun k a b => zU_n (by omega)), ⟨(zU_s u 7 0).symm, by omega, by omega, h.T.2.2.2.1, fun k a b => by omega⟩, RL_c h.L (zU_n (by omega))⟩
noncomputable def ansUndo (stt : Int) : Int := vI (0 < stt) (stt - 1) (-2)
noncomputable def allZ (u : Int → Int) : Int := sumZ (fun row => kndR u row 4) 8
