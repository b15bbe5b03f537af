/-! ===== what the numbers are: the terms of the document, row by row ===== -/
abbrev zT (cA cB : ClassId) : List (ClassId × FieldType) := [(cA, .int), (cB, .object "StripDepths$Sheet")]
/-- the column to which a place is bound; -4 if it is free -/
def zb (per : Int) (p : Int → Int) (c : Int) : Int := if 0 ≤ c - (per - p c) then c - (per - p c) else -4
theorem zb_b {per : Int} {p : Int → Int} {c : Int} (h : 0 ≤ c - (per - p c)) : zb per p c = c - (per - p c) := by
  unfold zb
  rw [if_pos h]
theorem zb_f {per : Int} {p : Int → Int} {c : Int} (h : c - (per - p c) < 0) : zb per p c = -4 := by
  unfold zb
  rw [if_neg (by omega)]
/-- a plane fits a place -/
def fitP (per win : Int) (d : Int → Int) (c q : Int) : Prop := per - q ≤ c ∧ ∀ k : Int, c - win ≤ k → k ≤ c + win → k ≤ 31 → per - q ≤ k → d k = d (k - (per - q))
/-- of those that keep to F the one that is the least away, of two the greater one; -4 if there is none -/
def Near (F : Int → Prop) (had r : Int) : Prop := (r = -4 ∧ ∀ q : Int, 0 ≤ q → q ≤ 4 → ¬ F q) ∨ (0 ≤ r ∧ r ≤ 4 ∧ F r ∧ ∀ q : Int, 0 ≤ q → q ≤ 4 → F q → max (r - had) (had - r) < max (q - had) (had - q) ∨ (max (r - had) (had - r) = max (q - had) (had - q) ∧ q ≤ r))
theorem Near.uniq {F : Int → Prop} {had r r2 : Int} (h : Near F had r) (h2 : Near F had r2) : r = r2 := by
  rcases h with ⟨a, b⟩ | ⟨a, b, e, g⟩ <;> rcases h2 with ⟨a2, b2⟩ | ⟨a2, b2, e2, g2⟩
  · omega
  · exact absurd e2 (b _ a2 b2)
  · exact absurd e (b2 _ a b)
  · have h1 := g _ a2 b2 e2
    have h3 := g2 _ a b e
    omega
noncomputable def nearF (F : Int → Prop) (had : Int) : Int := Classical.epsilon (Near F had)
theorem nearF_of {F : Int → Prop} {had r : Int} (h : Near F had r) : nearF F had = r := Near.uniq (Classical.epsilon_spec ⟨r, h⟩) h
/-- the plane that the eyes have ahead of a column -/
noncomputable def hadN (per win : Int) (d : Int → Int) : Nat → Int
  | 0 => 0
  | n + 1 => if nearF (fitP per win d (n : Int)) (hadN per win d n) = -4 then hadN per win d n else nearF (fitP per win d (n : Int)) (hadN per win d n)
noncomputable def hadZ (per win : Int) (d : Int → Int) (c : Int) : Int := hadN per win d c.toNat
/-- the plane that they take at a column; -4 -/
noncomputable def takZ (per win : Int) (d : Int → Int) (c : Int) : Int := nearF (fitP per win d c) (hadZ per win d c)
theorem hadZ_0 (per win : Int) (d : Int → Int) : hadZ per win d 0 = 0 := rfl
theorem hadZ_s (per win : Int) (d : Int → Int) {c : Int} (h : 0 ≤ c) : hadZ per win d (c + 1) = if takZ per win d c = -4 then hadZ per win d c else takZ per win d c := by
  obtain ⟨n, rfl⟩ := Int.eq_ofNat_of_zero_le h
  rfl
/-- the plane that is seen; -4 where it is blurred -/
noncomputable def seeZ (per win cr : Int) (d : Int → Int) (c : Int) : Int := if takZ per win d c = -4 then -4 else if cr = 1 then 4 - takZ per win d c else takZ per win d c
/-- a row of a sheet -/
def zr (f : Int → Int) (row : Int) : Int → Int := fun k => f (row * 32 + k)
theorem fitP_congr {per win c q : Int} {d d' : Int → Int} (h : ∀ k : Int, 0 ≤ k → k < 32 → d k = d' k) (hq : q < per) : fitP per win d c q ↔ fitP per win d' c q := by
  unfold fitP
  constructor <;> rintro ⟨h1, h2⟩ <;> refine ⟨h1, fun k a b e g => ?_⟩
  · rw [← h k (by omega) (by omega), ← h (k - (per - q)) (by omega) (by omega)]
    exact h2 k a b e g
  · rw [h k (by omega) (by omega), h (k - (per - q)) (by omega) (by omega)]
    exact h2 k a b e g
theorem Near_congr {F G : Int → Prop} {had r : Int} (h : ∀ q : Int, 0 ≤ q → q ≤ 4 → (F q ↔ G q)) : Near F had r ↔ Near G had r := by
  constructor
  · rintro (⟨a, b⟩ | ⟨a, b, e, g⟩)
    · exact Or.inl ⟨a, fun q h1 h2 h3 => b q h1 h2 ((h q h1 h2).mpr h3)⟩
    · exact Or.inr ⟨a, b, (h r a b).mp e, fun q h1 h2 h3 => g q h1 h2 ((h q h1 h2).mpr h3)⟩
  · rintro (⟨a, b⟩ | ⟨a, b, e, g⟩)
    · exact Or.inl ⟨a, fun q h1 h2 h3 => b q h1 h2 ((h q h1 h2).mp h3)⟩
    · exact Or.inr ⟨a, b, (h r a b).mpr e, fun q h1 h2 h3 => g q h1 h2 ((h q h1 h2).mp h3)⟩
theorem nearF_congr {F G : Int → Prop} {had : Int} (h : ∀ q : Int, 0 ≤ q → q ≤ 4 → (F q ↔ G q)) : nearF F had = nearF G had := by
  unfold nearF
  congr 1
  funext r
  exact propext (Near_congr h)
theorem hadN_congr {per win : Int} {d d' : Int → Int} (h : ∀ k : Int, 0 ≤ k → k < 32 → d k = d' k) (hper : 6 ≤ per) (n : Nat) : hadN per win d n = hadN per win d' n := by
  induction n with
  | zero => rfl
  | succ n ih =>
    show (if nearF (fitP per win d (n : Int)) (hadN per win d n) = -4 then hadN per win d n else nearF (fitP per win d (n : Int)) (hadN per win d n)) = (if nearF (fitP per win d' (n : Int)) (hadN per win d' n) = -4 then hadN per win d' n else nearF (fitP per win d' (n : Int)) (hadN per win d' n))
    rw [ih, nearF_congr (F := fitP per win d (n : Int)) (G := fitP per win d' (n : Int)) (fun q _ h2 => fitP_congr h (by omega))]
theorem takZ_congr {per win c : Int} {d d' : Int → Int} (h : ∀ k : Int, 0 ≤ k → k < 32 → d k = d' k) (hper : 6 ≤ per) : takZ per win d c = takZ per win d' c := by
  unfold takZ hadZ
  rw [hadN_congr h hper, nearF_congr (F := fitP per win d c) (G := fitP per win d' c) (fun q _ h2 => fitP_congr h (by omega))]
theorem seeZ_congr {per win cr c : Int} {d d' : Int → Int} (h : ∀ k : Int, 0 ≤ k → k < 32 → d k = d' k) (hper : 6 ≤ per) : seeZ per win cr d c = seeZ per win cr d' c := by
  unfold seeZ
  rw [takZ_congr h hper]
theorem nearF_r (F : Int → Prop) (had : Int) (h : ∃ r, Near F had r) : nearF F had = -4 ∨ (0 ≤ nearF F had ∧ nearF F had ≤ 4) := by
  obtain ⟨r, h⟩ := h
  rw [nearF_of h]
  rcases h with ⟨a, b⟩ | ⟨a, b, e, g⟩ <;> omega
/-- the free place of a chain -/
def chN (per : Int) (p : Int → Int) : Nat → Int → Int
  | 0, c => c
  | n + 1, c => if zb per p c = -4 then c else chN per p n (zb per p c)
def chZ (per : Int) (p : Int → Int) (c : Int) : Int := chN per p 32 c
theorem zb_r {per : Int} {p : Int → Int} {c : Int} (h : p c < per) : zb per p c = -4 ∨ (0 ≤ zb per p c ∧ zb per p c < c) := by
  unfold zb
  split <;> omega
theorem chN_st {per : Int} {p : Int → Int} (h : ∀ k : Int, 0 ≤ k → k < 32 → p k < per) : ∀ (n m : Nat) (c : Int), 0 ≤ c → c < 32 → c ≤ n → c ≤ m → chN per p n c = chN per p m c := by
  intro n
  induction n with
  | zero =>
    intro m c h0 h1 h2 h3
    have e : c = 0 := by omega
    subst e
    have hz : zb per p 0 = -4 := by have := zb_r (h 0 (by omega) (by omega)); omega
    cases m with
    | zero => rfl
    | succ m => show (0 : Int) = if zb per p 0 = -4 then 0 else _; rw [if_pos hz]
  | succ n ih =>
    intro m c h0 h1 h2 h3
    have hz := zb_r (h c h0 h1)
    cases m with
    | zero =>
      have e : c = 0 := by omega
      subst e
      show (if zb per p 0 = -4 then (0 : Int) else chN per p n (zb per p 0)) = 0
      rw [if_pos (by omega)]
    | succ m =>
      show (if zb per p c = -4 then c else chN per p n (zb per p c)) = (if zb per p c = -4 then c else chN per p m (zb per p c))
      by_cases q : zb per p c = -4
      · rw [if_pos q, if_pos q]
      · rw [if_neg q, if_neg q]
        exact ih m _ (by omega) (by omega) (by omega) (by omega)
theorem chZ_f {per : Int} {p : Int → Int} {c : Int} (h : zb per p c = -4) : chZ per p c = c := by
  show (if zb per p c = -4 then c else _) = c
  rw [if_pos h]
theorem chZ_b {per : Int} {p : Int → Int} {c t : Int} (h : ∀ k : Int, 0 ≤ k → k < 32 → p k < per) (hc : 0 ≤ c ∧ c < 32) (ht : zb per p c = t) (h0 : 0 ≤ t) : chZ per p c = chZ per p t := by
  have hz := zb_r (h c hc.1 hc.2)
  show (if zb per p c = -4 then c else chN per p 31 (zb per p c)) = chN per p 32 t
  rw [if_neg (by omega), ht]
  exact chN_st h 31 32 t h0 (by omega) (by omega) (by omega)
theorem chN_r {per : Int} {p : Int → Int} (h : ∀ k : Int, 0 ≤ k → k < 32 → p k < per) : ∀ (n : Nat) (c : Int), 0 ≤ c → c < 32 → 0 ≤ chN per p n c ∧ chN per p n c < 32 := by
  intro n
  induction n with
  | zero => intro c h0 h1; exact ⟨h0, h1⟩
  | succ n ih =>
    intro c h0 h1
    have hz := zb_r (h c h0 h1)
    show 0 ≤ (if zb per p c = -4 then c else chN per p n (zb per p c)) ∧ (if zb per p c = -4 then c else chN per p n (zb per p c)) < 32
    split
    · exact ⟨h0, h1⟩
    · exact ih _ (by omega) (by omega)
theorem chN_congr {per : Int} {p p' : Int → Int} (h : ∀ k : Int, 0 ≤ k → k < 32 → p k < per) (h2 : ∀ k : Int, 0 ≤ k → k < 32 → p k = p' k) : ∀ (n : Nat) (c : Int), 0 ≤ c → c < 32 → chN per p n c = chN per p' n c := by
  intro n
  induction n with
  | zero => intro c h0 h1; rfl
  | succ n ih =>
    intro c h0 h1
    have hz := zb_r (h c h0 h1)
    have e : zb per p' c = zb per p c := by unfold zb; rw [h2 c h0 h1]
    show (if zb per p c = -4 then c else chN per p n (zb per p c)) = (if zb per p' c = -4 then c else chN per p' n (zb per p' c))
    rw [e]
    split
    · rfl
    · exact ih _ (by omega) (by omega)
/-- how many are bound to a place -/
noncomputable def bndZ (per : Int) (p : Int → Int) (k : Int) : Int := zcnt (fun j => zb per p j = k) 32
/-- of which kind a place is -/
def kindP (per : Int) (p d mm sn bd : Int → Int) (kind c : Int) : Prop := (kind = 0 ∧ zb per p c = -4) ∨ (kind = 1 ∧ 2 ≤ bd c) ∨ (kind = 2 ∧ bd c = 0) ∨ (kind = 3 ∧ ¬ zb per p c = -4 ∧ ¬ d c = d (zb per p c)) ∨ (kind = 4 ∧ sn c = p c) ∨ (kind = 5 ∧ ¬ sn c = -4 ∧ ¬ sn c = p c) ∨ (kind = 6 ∧ sn c = -4) ∨ (kind = 7 ∧ ¬ mm c = -4)
/-- the greatest of some numbers, at least 0 -/
def maxN (f : Int → Int) : Nat → Int
  | 0 => 0
  | n + 1 => max (maxN f n) (f (n : Int))
def maxZ (f : Int → Int) (c : Int) : Int := maxN f c.toNat
theorem maxZ_s (f : Int → Int) {c : Int} (h : 0 ≤ c) : maxZ f (c + 1) = max (maxZ f c) (f c) := by
  obtain ⟨n, rfl⟩ := Int.eq_ofNat_of_zero_le h
  rfl
/-- the plane seen last, and how often it has changed -/
def lastN (sn : Int → Int) : Nat → Int
  | 0 => -4
  | n + 1 => if sn (n : Int) = -4 then lastN sn n else sn (n : Int)
def lastZ (sn : Int → Int) (c : Int) : Int := lastN sn c.toNat
theorem lastZ_s (sn : Int → Int) {c : Int} (h : 0 ≤ c) : lastZ sn (c + 1) = if sn c = -4 then lastZ sn c else sn c := by
  obtain ⟨n, rfl⟩ := Int.eq_ofNat_of_zero_le h
  rfl
noncomputable def chgZ (sn : Int → Int) (c : Int) : Int := zcnt (fun k => ¬ sn k = -4 ∧ ¬ lastZ sn k = -4 ∧ ¬ sn k = lastZ sn k) c
/-- how far the farthest one is that is seen otherwise -/
def farN (sn sm : Int → Int) (a : Int) : Nat → Int
  | 0 => -4
  | n + 1 => if sn (n : Int) = sm (n : Int) then farN sn sm a n else max (farN sn sm a n) (max ((n : Int) - a) (a - (n : Int)))
def farZ (sn sm : Int → Int) (a c : Int) : Int := farN sn sm a c.toNat
theorem farZ_s (sn sm : Int → Int) (a : Int) {c : Int} (h : 0 ≤ c) : farZ sn sm a (c + 1) = if sn c = sm c then farZ sn sm a c else max (farZ sn sm a c) (max (c - a) (a - c)) := by
  obtain ⟨n, rfl⟩ := Int.eq_ofNat_of_zero_le h
  rfl
/-- a row that is printed: its dots, the free places so far, the lot -/
def prN (per : Int) (p d T : Int → Int) (len col lot : Int) : Nat → (Int → Int) × Int × Int
  | 0 => (d, 0, lot)
  | n + 1 => if ¬ zb per p (n : Int) = -4 then (zU (prN per p d T len col lot n).1 (n : Int) ((prN per p d T len col lot n).1 (zb per p (n : Int))), (prN per p d T len col lot n).2) else if 0 < len then (zU (prN per p d T len col lot n).1 (n : Int) (T ((prN per p d T len col lot n).2.1 % len)), (prN per p d T len col lot n).2.1 + 1, (prN per p d T len col lot n).2.2) else (zU (prN per p d T len col lot n).1 (n : Int) (((421 * (prN per p d T len col lot n).2.2 + 1663) % 10000) % col), (prN per p d T len col lot n).2.1, (421 * (prN per p d T len col lot n).2.2 + 1663) % 10000)
def prZ (per : Int) (p d T : Int → Int) (len col lot c : Int) : (Int → Int) × Int × Int := prN per p d T len col lot c.toNat
theorem prZ_s (per : Int) (p d T : Int → Int) (len col lot : Int) {c : Int} (h : 0 ≤ c) : prZ per p d T len col lot (c + 1) = if ¬ zb per p c = -4 then (zU (prZ per p d T len col lot c).1 c ((prZ per p d T len col lot c).1 (zb per p c)), (prZ per p d T len col lot c).2) else if 0 < len then (zU (prZ per p d T len col lot c).1 c (T ((prZ per p d T len col lot c).2.1 % len)), (prZ per p d T len col lot c).2.1 + 1, (prZ per p d T len col lot c).2.2) else (zU (prZ per p d T len col lot c).1 c (((421 * (prZ per p d T len col lot c).2.2 + 1663) % 10000) % col), (prZ per p d T len col lot c).2.1, (421 * (prZ per p d T len col lot c).2.2 + 1663) % 10000) := by
  obtain ⟨n, rfl⟩ := Int.eq_ofNat_of_zero_le h
  rfl
theorem zcnt_none {P : Int → Prop} {c : Int} (h : ∀ k : Int, 0 ≤ k → k < c → ¬ P k) : zcnt P c = 0 := by
  rcases (show c < 0 ∨ 0 ≤ c from by omega) with q | q
  · show cnt P c.toNat = 0
    rw [Int.toNat_of_nonpos (by omega)]
    rfl
  · obtain ⟨n, rfl⟩ := Int.eq_ofNat_of_zero_le q
    show cnt P n = 0
    induction n with
    | zero => rfl
    | succ n ih =>
      show cnt P n + bI (P n) = 0
      rw [ih (fun k h0 h1 => h k h0 (by omega)) (by omega), bI_f (h n (by omega) (by omega))]
      rfl
theorem zU_ext {g f : Int → Int} {c v : Int} (h : ∀ k : Int, 0 ≤ k → k < c → g k = f k) (hv : v = f c) : ∀ k : Int, 0 ≤ k → k < c + 1 → zU g c v k = f k := by
  intro k h0 h1
  rcases (show k < c ∨ k = c from by omega) with h2 | h2
  · rw [zU_n (by omega)]
    exact h k h0 h2
  · rw [h2, zU_s]
    exact hv
