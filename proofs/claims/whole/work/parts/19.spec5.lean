/-! ===== what the looks answer, of a row u of 800 numbers ===== -/
def okR (row : Int) : Prop := 0 ≤ row ∧ row < 8
noncomputable def atZ (u : Int → Int) (row col wh : Int) : Int := if wh = 0 then zp u row col else if wh = 1 then zd u row col else if wh = 2 then seeR u row col else if wh = 3 then zb (u 0) (zp u row) col else if wh = 4 then bndR u row col else if wh = 5 then chnR u row col else if wh = 6 then zcnt (fun k => chnR u row k = chnR u row col) 32 else zk u row col
noncomputable def ecZ (u : Int → Int) (row e : Int) : Int := zcnt (fun k => e ≤ k ∧ zd u row k = zd u row (k - e)) 32
noncomputable def dotsZ (u : Int → Int) (row : Int) : Int := zcnt (fun v => ∃ k : Int, 0 ≤ k ∧ k < 32 ∧ zd u row k = v) 8
noncomputable def longZ (u : Int → Int) (row : Int) : Int := maxZ (fun q => zcnt (fun k => chnR u row k = q) 32) 32
noncomputable def rowZ (u : Int → Int) (row wh : Int) : Int := if wh = 8 then longZ u row else if wh = 9 then dotsZ u row else if wh = 10 then zcnt (chgP (seeR u row)) 32 else kndR u row wh
def sumN (f : Int → Int) : Nat → Int
  | 0 => 0
  | n + 1 => sumN f n + f (n : Int)
def sumZ (f : Int → Int) (c : Int) : Int := sumN f c.toNat
theorem sumZ_s (f : Int → Int) {c : Int} (h : 0 ≤ c) : sumZ f (c + 1) = sumZ f c + f c := by
  obtain ⟨n, rfl⟩ := Int.eq_ofNat_of_zero_le h
  rfl
theorem zcnt_le {P Q : Int → Prop} {c : Int} (h : ∀ k : Int, 0 ≤ k → k < c → P k → Q k) : zcnt P c ≤ zcnt Q c := by
  show cnt P c.toNat ≤ cnt Q c.toNat
  have key : ∀ n : Nat, (n : Int) ≤ c ∨ n = 0 → cnt P n ≤ cnt Q n := by
    intro n
    induction n with
    | zero => intro _; exact Int.le_refl _
    | succ n ih =>
      intro hn
      have h1 := ih (by omega)
      show cnt P n + bI (P n) ≤ cnt Q n + bI (Q n)
      by_cases q : P n
      · rw [bI_t q, bI_t (h n (by omega) (by omega) q)]; omega
      · rw [bI_f q]
        rcases bI_01 (Q n) with e | e <;> omega
  exact key _ (by omega)
theorem zcnt_lt {P Q : Int → Prop} {c m : Int} (h : ∀ k : Int, 0 ≤ k → k < c → P k → Q k) (h0 : 0 ≤ m) (h1 : m < c) (hq : Q m) (hp : ¬ P m) : zcnt P c < zcnt Q c := by
  have key : ∀ n : Nat, (n : Int) ≤ c → m < n → zcnt P n < zcnt Q n := by
    intro n
    induction n with
    | zero => intro _ h; omega
    | succ n ih =>
      intro hn hm
      have e1 := zcnt_s P (c := (n : Int)) (by omega)
      have e2 := zcnt_s Q (c := (n : Int)) (by omega)
      rw [show ((n + 1 : Nat) : Int) = (n : Int) + 1 by omega, e1, e2]
      by_cases e : m = n
      · have h3 := zcnt_le (P := P) (Q := Q) (c := (n : Int)) (fun k a b => h k a (by omega))
        rw [← e, bI_t hq, bI_f hp, e]; omega
      · have h3 := ih (by omega) (by omega)
        by_cases q : P n
        · rw [bI_t q, bI_t (h n (by omega) (by omega) q)]; omega
        · rw [bI_f q]
          rcases bI_01 (Q n) with e | e <;> omega
  have := key c.toNat (by omega) (by omega)
  rwa [show ((c.toNat : Nat) : Int) = c by omega] at this
theorem zcnt_full {P : Int → Prop} {c : Int} (h : 0 ≤ c) : zcnt P c = c ↔ ∀ k : Int, 0 ≤ k → k < c → P k := by
  constructor
  · intro e k h0 h1
    refine Classical.byContradiction fun q => ?_
    have h2 := zcnt_lt (P := P) (Q := fun _ => True) (c := c) (fun _ _ _ _ => trivial) h0 h1 trivial q
    have h3 := (zcnt_r (fun _ => True) h).2
    omega
  · intro e
    have h2 := zcnt_le (P := fun _ => True) (Q := P) (c := c) (fun k a b _ => e k a b)
    have h3 := (zcnt_r P h).2
    have key : ∀ n : Nat, cnt (fun _ => True) n = n := by
      intro n
      induction n with
      | zero => rfl
      | succ n ih => show cnt (fun _ => True) n + bI True = _; rw [ih, bI_t trivial]; rfl
    have h4 : zcnt (fun _ => True) c = c := by
      show cnt (fun _ => True) c.toNat = c
      rw [key]; omega
    omega
/-- the place in an order: the greatest first, of several the one ahead -/
def befP (f : Int → Int) (i k : Int) : Prop := f i < f k ∨ (f k = f i ∧ k < i)
noncomputable def rankZ (f : Int → Int) (n i : Int) : Int := zcnt (befP f i) n
theorem rank_inj {f : Int → Int} {n i j : Int} (hi : 0 ≤ i ∧ i < n) (hj : 0 ≤ j ∧ j < n) (h : rankZ f n i = rankZ f n j) : i = j := by
  refine Classical.byContradiction fun q => ?_
  rcases (show befP f j i ∨ befP f i j from by unfold befP; omega) with b | b
  · have := zcnt_lt (P := befP f i) (Q := befP f j) (c := n) (m := i) (fun k _ _ hk => by unfold befP at *; omega) hi.1 hi.2 b (by unfold befP; omega)
    unfold rankZ at h; omega
  · have := zcnt_lt (P := befP f j) (Q := befP f i) (c := n) (m := j) (fun k _ _ hk => by unfold befP at *; omega) hj.1 hj.2 b (by unfold befP; omega)
    unfold rankZ at h; omega
def PickR (f : Int → Int) (n place r : Int) : Prop := (0 ≤ r ∧ r < n ∧ rankZ f n r = place) ∨ (r = 0 ∧ ∀ i : Int, 0 ≤ i → i < n → ¬ rankZ f n i = place)
noncomputable def pickZ (f : Int → Int) (n place : Int) : Int := Classical.epsilon (PickR f n place)
theorem pickZ_of {f : Int → Int} {n place r : Int} (h : PickR f n place r) : pickZ f n place = r := by
  have h2 : PickR f n place (pickZ f n place) := Classical.epsilon_spec ⟨r, h⟩
  rcases h with ⟨a, b, c⟩ | ⟨a, b⟩ <;> rcases h2 with ⟨a2, b2, c2⟩ | ⟨a2, b2⟩
  · exact rank_inj ⟨a2, b2⟩ ⟨a, b⟩ (c2.trans c.symm)
  · exact absurd c (b2 _ a b)
  · exact absurd c2 (b _ a2 b2)
  · omega
theorem rankZ_congr {f g : Int → Int} {n i : Int} (hi : 0 ≤ i ∧ i < n) (h : ∀ k : Int, 0 ≤ k → k < n → (befP f i k ↔ befP g i k)) : rankZ f n i = rankZ g n i := zcnt_congr (fun k a b => h k a b)
theorem PickR_congr {f g : Int → Int} {n place r : Int} (h : ∀ i : Int, 0 ≤ i → i < n → rankZ f n i = rankZ g n i) (hp : PickR f n place r) : PickR g n place r := by
  rcases hp with ⟨a, b, c⟩ | ⟨a, b⟩
  · exact Or.inl ⟨a, b, by rw [← h r a b]; exact c⟩
  · exact Or.inr ⟨a, fun i h0 h1 => by rw [← h i h0 h1]; exact b i h0 h1⟩
noncomputable def echoAtZ (u : Int → Int) (row place : Int) : Int := 2 + pickZ (fun i => ecZ u row (2 + i)) 23 place
noncomputable def faultZ (u : Int → Int) (row : Int) : Int := 100 * (kndR u row 6 + kndR u row 5) + kndR u row 6
noncomputable def planeZ (u : Int → Int) (q wh : Int) : Int := sumZ (fun row => numW (zp u row) (seeR u row) q wh) 8
noncomputable def picsZ (u : Int → Int) : Int := zcnt (fun r => ∀ q : Int, 0 ≤ q → q < r → ¬ ∀ k : Int, 0 ≤ k → k < 32 → seeR u r k = seeR u q k) 8
theorem numW_congr {p sn p' sn' : Int → Int} {q wh : Int} (h1 : ∀ k : Int, 0 ≤ k → k < 32 → p k = p' k) (h2 : ∀ k : Int, 0 ≤ k → k < 32 → sn k = sn' k) : numW p sn q wh = numW p' sn' q wh := by
  unfold numW
  rw [zcnt_congr (P := fun k => p k = q) (Q := fun k => p' k = q) (fun k a b => by rw [h1 k a b]), zcnt_congr (P := fun k => sn k = q) (Q := fun k => sn' k = q) (fun k a b => by rw [h2 k a b]), zcnt_congr (P := fun k => p k = q ∧ sn k = q) (Q := fun k => p' k = q ∧ sn' k = q) (fun k a b => by rw [h1 k a b, h2 k a b])]
theorem maxZ_congr {f g : Int → Int} {c : Int} (h : ∀ k : Int, 0 ≤ k → k < c → f k = g k) : maxZ f c = maxZ g c := by
  show maxN f c.toNat = maxN g c.toNat
  have key : ∀ n : Nat, (n : Int) ≤ c ∨ n = 0 → maxN f n = maxN g n := by
    intro n
    induction n with
    | zero => intro _; rfl
    | succ n ih =>
      intro hn
      show max (maxN f n) (f n) = max (maxN g n) (g n)
      rw [ih (by omega), h n (by omega) (by omega)]
  exact key _ (by omega)
theorem lastN_congr {f g : Int → Int} (n : Nat) (h : ∀ k : Int, 0 ≤ k → k < n → f k = g k) : lastN f n = lastN g n := by
  induction n with
  | zero => rfl
  | succ n ih =>
    show (if f n = -4 then lastN f n else f n) = (if g n = -4 then lastN g n else g n)
    rw [ih (fun k a b => h k a (by omega)), h n (by omega) (by omega)]
theorem chgP_congr {f g : Int → Int} {k : Int} (h0 : 0 ≤ k) (h : ∀ j : Int, 0 ≤ j → j ≤ k → f j = g j) : chgP f k ↔ chgP g k := by
  unfold chgP lastZ
  rw [lastN_congr k.toNat (fun j a b => h j a (by omega)), h k h0 (by omega)]
theorem farZ_congr {f g f' g' : Int → Int} {a c : Int} (h : ∀ k : Int, 0 ≤ k → k < c → f k = f' k ∧ g k = g' k) : farZ f g a c = farZ f' g' a c := by
  show farN f g a c.toNat = farN f' g' a c.toNat
  have key : ∀ n : Nat, (n : Int) ≤ c ∨ n = 0 → farN f g a n = farN f' g' a n := by
    intro n
    induction n with
    | zero => intro _; rfl
    | succ n ih =>
      intro hn
      show (if f n = g n then farN f g a n else max (farN f g a n) (max ((n : Int) - a) (a - (n : Int)))) = (if f' n = g' n then farN f' g' a n else max (farN f' g' a n) (max ((n : Int) - a) (a - (n : Int))))
      rw [ih (by omega), (h n (by omega) (by omega)).1, (h n (by omega) (by omega)).2]
  exact key _ (by omega)
theorem kndR_of {u p d mm sn bd : Int → Int} {row kind : Int} (hp : ∀ k : Int, 0 ≤ k → k < 32 → p k = zp u row k) (hd : ∀ k : Int, 0 ≤ k → k < 32 → d k = zd u row k) (hm : ∀ k : Int, 0 ≤ k → k < 32 → mm k = zk u row k) (hs : ∀ k : Int, 0 ≤ k → k < 32 → sn k = seeR u row k) (hb : ∀ k : Int, 0 ≤ k → k < 32 → bd k = bndR u row k) (hpr : ∀ k : Int, 0 ≤ k → k < 32 → p k < u 0) : zcnt (kindP (u 0) p d mm sn bd kind) 32 = kndR u row kind :=
  zcnt_congr (fun k a b => kindP_congr ⟨a, b⟩ hpr hp hd (hm k a b) (hs k a b) (hb k a b))
