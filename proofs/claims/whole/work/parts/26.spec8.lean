/-! ===== shapes and strips that are read ===== -/
abbrev Z6 : Type := Int × Int × Int × Int × Int × Int
/-- the greatest column whose number begins with a digit -/
def grt (d : Int) : Int := if d = 0 ∨ 31 < 10 * d then d else min (10 * d + 9) 31
/-- one character more: rows, columns, the plane, the stage -/
def stp (z : Z6) (c : Int) : Option Z6 :=
  if z.2.2.2.2.2 = 0 then (if 48 ≤ c ∧ c ≤ 55 then some (c - 48, c - 48, z.2.2.1, z.2.2.2.1, z.2.2.2.2.1, 1) else none)
  else if z.2.2.2.2.2 = 1 then (if c = 45 then some (z.1, z.2.1, z.2.2.1, z.2.2.2.1, z.2.2.2.2.1, 2) else if c = 44 then some (z.1, z.2.1, z.2.2.1, z.2.2.2.1, z.2.2.2.2.1, 4) else none)
  else if z.2.2.2.2.2 = 2 then (if (48 ≤ c ∧ c ≤ 55) ∧ z.1 ≤ c - 48 then some (z.1, c - 48, z.2.2.1, z.2.2.2.1, z.2.2.2.2.1, 3) else none)
  else if z.2.2.2.2.2 = 3 then (if c = 44 then some (z.1, z.2.1, z.2.2.1, z.2.2.2.1, z.2.2.2.2.1, 4) else none)
  else if z.2.2.2.2.2 = 4 then (if 48 ≤ c ∧ c ≤ 57 then some (z.1, z.2.1, c - 48, c - 48, z.2.2.2.2.1, 5) else none)
  else if z.2.2.2.2.2 = 5 then (if c = 45 then some (z.1, z.2.1, z.2.2.1, z.2.2.2.1, z.2.2.2.2.1, 6) else if c = 58 then some (z.1, z.2.1, z.2.2.1, z.2.2.2.1, z.2.2.2.2.1, 8) else if (48 ≤ c ∧ c ≤ 57) ∧ 0 < z.2.2.1 ∧ 10 * z.2.2.1 + (c - 48) ≤ 31 then some (z.1, z.2.1, 10 * z.2.2.1 + (c - 48), 10 * z.2.2.1 + (c - 48), z.2.2.2.2.1, 5) else none)
  else if z.2.2.2.2.2 = 6 then (if (48 ≤ c ∧ c ≤ 57) ∧ z.2.2.1 ≤ grt (c - 48) then some (z.1, z.2.1, z.2.2.1, c - 48, z.2.2.2.2.1, 7) else none)
  else if z.2.2.2.2.2 = 7 then (if c = 58 then (if z.2.2.1 ≤ z.2.2.2.1 then some (z.1, z.2.1, z.2.2.1, z.2.2.2.1, z.2.2.2.2.1, 8) else none) else if (48 ≤ c ∧ c ≤ 57) ∧ ¬ z.2.2.2.1 = 0 ∧ 10 * z.2.2.2.1 + (c - 48) ≤ 31 ∧ z.2.2.1 ≤ 10 * z.2.2.2.1 + (c - 48) then some (z.1, z.2.1, z.2.2.1, 10 * z.2.2.2.1 + (c - 48), z.2.2.2.2.1, 7) else none)
  else if z.2.2.2.2.2 = 8 then (if 48 ≤ c ∧ c ≤ 52 then some (z.1, z.2.1, z.2.2.1, z.2.2.2.1, c - 48, 9) else none)
  else if z.2.2.2.2.2 = 9 then (if c = 59 then some (z.1, z.2.1, z.2.2.1, z.2.2.2.1, z.2.2.2.2.1, 0) else none)
  else none
theorem stp0 {t b e r q c : Int} : stp (t, b, e, r, q, 0) c = if 48 ≤ c ∧ c ≤ 55 then some (c - 48, c - 48, e, r, q, 1) else none := rfl
theorem stp1 {t b e r q c : Int} : stp (t, b, e, r, q, 1) c = if c = 45 then some (t, b, e, r, q, 2) else if c = 44 then some (t, b, e, r, q, 4) else none := rfl
theorem stp2 {t b e r q c : Int} : stp (t, b, e, r, q, 2) c = if (48 ≤ c ∧ c ≤ 55) ∧ t ≤ c - 48 then some (t, c - 48, e, r, q, 3) else none := rfl
theorem stp3 {t b e r q c : Int} : stp (t, b, e, r, q, 3) c = if c = 44 then some (t, b, e, r, q, 4) else none := rfl
theorem stp4 {t b e r q c : Int} : stp (t, b, e, r, q, 4) c = if 48 ≤ c ∧ c ≤ 57 then some (t, b, c - 48, c - 48, q, 5) else none := rfl
theorem stp5 {t b e r q c : Int} : stp (t, b, e, r, q, 5) c = if c = 45 then some (t, b, e, r, q, 6) else if c = 58 then some (t, b, e, r, q, 8) else if (48 ≤ c ∧ c ≤ 57) ∧ 0 < e ∧ 10 * e + (c - 48) ≤ 31 then some (t, b, 10 * e + (c - 48), 10 * e + (c - 48), q, 5) else none := rfl
theorem stp6 {t b e r q c : Int} : stp (t, b, e, r, q, 6) c = if (48 ≤ c ∧ c ≤ 57) ∧ e ≤ grt (c - 48) then some (t, b, e, c - 48, q, 7) else none := rfl
theorem stp7 {t b e r q c : Int} : stp (t, b, e, r, q, 7) c = if c = 58 then (if e ≤ r then some (t, b, e, r, q, 8) else none) else if (48 ≤ c ∧ c ≤ 57) ∧ ¬ r = 0 ∧ 10 * r + (c - 48) ≤ 31 ∧ e ≤ 10 * r + (c - 48) then some (t, b, e, 10 * r + (c - 48), q, 7) else none := rfl
theorem stp8 {t b e r q c : Int} : stp (t, b, e, r, q, 8) c = if 48 ≤ c ∧ c ≤ 52 then some (t, b, e, r, c - 48, 9) else none := rfl
theorem stp9 {t b e r q c : Int} : stp (t, b, e, r, q, 9) c = if c = 59 then some (t, b, e, r, q, 0) else none := rfl
abbrev Zok (t b e r q g : Int) : Prop := (0 ≤ t ∧ t ≤ 7) ∧ (0 ≤ b ∧ b ≤ 7) ∧ (0 ≤ e ∧ e ≤ 31) ∧ (0 ≤ r ∧ r ≤ 31) ∧ (0 ≤ q ∧ q ≤ 4) ∧ (0 ≤ g ∧ g ≤ 9) ∧ (1 ≤ g → t ≤ b) ∧ (5 ≤ g → g = 7 ∨ e ≤ r)
/-- alike in all that counts -/
abbrev Zsim (t b e r q g t2 b2 e2 r2 q2 g2 : Int) : Prop := g = g2 ∧ (1 ≤ g → t = t2 ∧ b = b2) ∧ (5 ≤ g → e = e2 ∧ r = r2) ∧ (9 ≤ g → q = q2)
set_option maxHeartbeats 4000000 in
theorem stp_sim {t b e r q g t2 b2 e2 r2 q2 g2 c : Int} (h : Zsim t b e r q g t2 b2 e2 r2 q2 g2) (hg : 0 ≤ g ∧ g ≤ 9) : (stp (t, b, e, r, q, g) c = none ∧ stp (t2, b2, e2, r2, q2, g2) c = none) ∨ ∃ t3 b3 e3 r3 q3 g3 t4 b4 e4 r4 q4 g4, stp (t, b, e, r, q, g) c = some (t3, b3, e3, r3, q3, g3) ∧ stp (t2, b2, e2, r2, q2, g2) c = some (t4, b4, e4, r4, q4, g4) ∧ Zsim t3 b3 e3 r3 q3 g3 t4 b4 e4 r4 q4 g4 := by
  obtain ⟨rfl, h1, h2, h3⟩ := h
  rcases (show g = 0 ∨ g = 1 ∨ g = 2 ∨ g = 3 ∨ g = 4 ∨ g = 5 ∨ g = 6 ∨ g = 7 ∨ g = 8 ∨ g = 9 from by omega) with rfl | rfl | rfl | rfl | rfl | rfl | rfl | rfl | rfl | rfl
  · rw [stp0, stp0]
    split
    · exact Or.inr ⟨_, _, _, _, _, _, _, _, _, _, _, _, rfl, rfl, by omega⟩
    · exact Or.inl ⟨rfl, rfl⟩
  · obtain ⟨rfl, rfl⟩ := h1 (by omega)
    rw [stp1, stp1]
    (repeat' split) <;> first | exact Or.inl ⟨rfl, rfl⟩ | exact Or.inr ⟨_, _, _, _, _, _, _, _, _, _, _, _, rfl, rfl, by omega⟩
  · obtain ⟨rfl, rfl⟩ := h1 (by omega)
    rw [stp2, stp2]
    (repeat' split) <;> first | exact Or.inl ⟨rfl, rfl⟩ | exact Or.inr ⟨_, _, _, _, _, _, _, _, _, _, _, _, rfl, rfl, by omega⟩
  · obtain ⟨rfl, rfl⟩ := h1 (by omega)
    rw [stp3, stp3]
    (repeat' split) <;> first | exact Or.inl ⟨rfl, rfl⟩ | exact Or.inr ⟨_, _, _, _, _, _, _, _, _, _, _, _, rfl, rfl, by omega⟩
  · obtain ⟨rfl, rfl⟩ := h1 (by omega)
    rw [stp4, stp4]
    (repeat' split) <;> first | exact Or.inl ⟨rfl, rfl⟩ | exact Or.inr ⟨_, _, _, _, _, _, _, _, _, _, _, _, rfl, rfl, by omega⟩
  · obtain ⟨rfl, rfl⟩ := h1 (by omega)
    obtain ⟨rfl, rfl⟩ := h2 (by omega)
    rw [stp5, stp5]
    (repeat' split) <;> first | exact Or.inl ⟨rfl, rfl⟩ | exact Or.inr ⟨_, _, _, _, _, _, _, _, _, _, _, _, rfl, rfl, by omega⟩
  · obtain ⟨rfl, rfl⟩ := h1 (by omega)
    obtain ⟨rfl, rfl⟩ := h2 (by omega)
    rw [stp6, stp6]
    (repeat' split) <;> first | exact Or.inl ⟨rfl, rfl⟩ | exact Or.inr ⟨_, _, _, _, _, _, _, _, _, _, _, _, rfl, rfl, by omega⟩
  · obtain ⟨rfl, rfl⟩ := h1 (by omega)
    obtain ⟨rfl, rfl⟩ := h2 (by omega)
    rw [stp7, stp7]
    (repeat' split) <;> first | exact Or.inl ⟨rfl, rfl⟩ | exact Or.inr ⟨_, _, _, _, _, _, _, _, _, _, _, _, rfl, rfl, by omega⟩
  · obtain ⟨rfl, rfl⟩ := h1 (by omega)
    obtain ⟨rfl, rfl⟩ := h2 (by omega)
    rw [stp8, stp8]
    (repeat' split) <;> first | exact Or.inl ⟨rfl, rfl⟩ | exact Or.inr ⟨_, _, _, _, _, _, _, _, _, _, _, _, rfl, rfl, by omega⟩
  · obtain ⟨rfl, rfl⟩ := h1 (by omega)
    obtain ⟨rfl, rfl⟩ := h2 (by omega)
    obtain rfl := h3 (by omega)
    rw [stp9]
    (repeat' split) <;> first | exact Or.inl ⟨rfl, rfl⟩ | exact Or.inr ⟨_, _, _, _, _, _, _, _, _, _, _, _, rfl, rfl, by omega⟩
/-- the characters of a pad, read from the first one on -/
def rn (cd : Int → Int) : Nat → Option Z6
  | 0 => some (0, 0, 0, 0, 0, 0)
  | n + 1 => match rn cd n with
    | some z => stp z (cd (n : Int))
    | none => none
def rnZ (cd : Int → Int) (c : Int) : Option Z6 := rn cd c.toNat
theorem rnZ_s {cd : Int → Int} {c : Int} {z : Z6} (h : 0 ≤ c) (h2 : rnZ cd c = some z) : rnZ cd (c + 1) = stp z (cd c) := by
  obtain ⟨n, rfl⟩ := Int.eq_ofNat_of_zero_le h
  have h3 : rn cd n = some z := h2
  show rn cd (n + 1) = _
  unfold rn
  rw [h3]
theorem rn_none {cd : Int → Int} {n : Nat} (h : rn cd n = none) : ∀ m : Nat, n ≤ m → rn cd m = none := by
  intro m hm
  induction m with
  | zero => rw [show n = 0 by omega] at h; exact h
  | succ m ih =>
    by_cases q : n = m + 1
    · rw [← q]; exact h
    · unfold rn
      rw [ih (by omega)]
/-- the fault of a pad that is read as shapes -/
def FS (cd : Int → Int) (len r : Int) : Prop := (0 ≤ r ∧ r < len ∧ ∃ z, rnZ cd r = some z ∧ stp z (cd r) = none) ∨ (r = len ∧ ∃ t b e p q g, rnZ cd len = some (t, b, e, p, q, g) ∧ ¬ g = 9) ∨ (r = -4 ∧ ∃ t b e p q, rnZ cd len = some (t, b, e, p, q, 9))
theorem FS_uniq {cd : Int → Int} {len r r2 : Int} (hl : 0 ≤ len) (h : FS cd len r) (h2 : FS cd len r2) : r = r2 := by
  have key : ∀ {a b : Int}, 0 ≤ a → a < b → (∃ z, rnZ cd a = some z ∧ stp z (cd a) = none) → (∃ z, rnZ cd b = some z) → False := by
    intro a b h0 h1 ⟨z, e1, e2⟩ ⟨y, e3⟩
    have e4 := rnZ_s h0 e1
    rw [e2] at e4
    have e5 := rn_none (n := (a + 1).toNat) e4 b.toNat (by omega)
    rw [show rn cd b.toNat = rnZ cd b from rfl, e3] at e5
    cases e5
  rcases h with ⟨a1, a2, a3⟩ | ⟨a1, t, b, e, p, q, g, a3, a4⟩ | ⟨a1, t, b, e, p, q, a3⟩ <;> rcases h2 with ⟨b1, b2, b3⟩ | ⟨b1, t2, bb2, e2, p2, q2, g2, b3, b4⟩ | ⟨b1, t2, bb2, e2, p2, q2, b3⟩
  · rcases (show r < r2 ∨ r = r2 ∨ r2 < r from by omega) with c | c | c
    · obtain ⟨z, b3, -⟩ := b3
      exact (key a1 c a3 ⟨z, b3⟩).elim
    · exact c
    · obtain ⟨z, a3, -⟩ := a3
      exact (key b1 c b3 ⟨z, a3⟩).elim
  · exact (key a1 a2 a3 ⟨_, b3⟩).elim
  · exact (key a1 a2 a3 ⟨_, b3⟩).elim
  · exact (key b1 b2 b3 ⟨_, a3⟩).elim
  · omega
  · rw [a3] at b3
    injection b3 with b3
    simp only [Prod.mk.injEq] at b3
    omega
  · exact (key b1 b2 b3 ⟨_, a3⟩).elim
  · rw [a3] at b3
    injection b3 with b3
    simp only [Prod.mk.injEq] at b3
    omega
  · omega
noncomputable def fsZ (cd : Int → Int) (len : Int) : Int := Classical.epsilon (FS cd len)
theorem fsZ_of {cd : Int → Int} {len r : Int} (hl : 0 ≤ len) (h : FS cd len r) : fsZ cd len = r := FS_uniq hl (Classical.epsilon_spec ⟨r, h⟩) h
/-- what the shapes lay, up to a character -/
def drN (cd u : Int → Int) : Nat → Int → Int
  | 0 => u
  | n + 1 => match rn cd (n + 1) with
    | some (t, b, e, r, q, g) => if g = 9 then layU (drN cd u n) t e b r q else drN cd u n
    | none => drN cd u n
def drZ (cd u : Int → Int) (c : Int) : Int → Int := drN cd u c.toNat
theorem drZ_s {cd u : Int → Int} {c t b e r q g : Int} (h : 0 ≤ c) (h2 : rnZ cd (c + 1) = some (t, b, e, r, q, g)) : drZ cd u (c + 1) = if g = 9 then layU (drZ cd u c) t e b r q else drZ cd u c := by
  obtain ⟨n, rfl⟩ := Int.eq_ofNat_of_zero_le h
  have h3 : rn cd (n + 1) = some (t, b, e, r, q, g) := h2
  show drN cd u (n + 1) = _
  rw [drN]
  rw [h3]
  rfl
/-! strips -/
def okD (cd : Int → Int) (j : Int) : Prop := j < 24 ∧ 48 ≤ cd j ∧ cd j ≤ 55
def FT (cd : Int → Int) (len r : Int) : Prop := (0 ≤ r ∧ r < len ∧ ¬ okD cd r ∧ ∀ j : Int, 0 ≤ j → j < r → okD cd j) ∨ ((∀ j : Int, 0 ≤ j → j < len → okD cd j) ∧ ((0 < len ∧ r = -4) ∨ (len ≤ 0 ∧ r = len)))
theorem FT_uniq {cd : Int → Int} {len r r2 : Int} (h : FT cd len r) (h2 : FT cd len r2) : r = r2 := by
  rcases h with ⟨a1, a2, a3, a4⟩ | ⟨a1, a2⟩ <;> rcases h2 with ⟨b1, b2, b3, b4⟩ | ⟨b1, b2⟩
  · rcases (show r < r2 ∨ r = r2 ∨ r2 < r from by omega) with c | c | c
    · exact absurd (b4 r a1 c) a3
    · exact c
    · exact absurd (a4 r2 b1 c) b3
  · exact absurd (b1 r a1 a2) a3
  · exact absurd (a1 r2 b1 b2) b3
  · omega
noncomputable def ftZ (cd : Int → Int) (len : Int) : Int := Classical.epsilon (FT cd len)
theorem ftZ_of {cd : Int → Int} {len r : Int} (h : FT cd len r) : ftZ cd len = r := FT_uniq (Classical.epsilon_spec ⟨r, h⟩) h
def windU (u cd : Int → Int) (len : Int) : Int → Int := fun k => if k = 7 then len else if 8 ≤ k ∧ k < 32 then (if k - 8 < len then cd (k - 8) - 48 else 0) else u k
theorem Rel_wind {u S P Q M T T2 cd : Int → Int} {len lot pl : Int} (h : Rel u S P Q M T len lot) (hp : 0 ≤ pl ∧ pl ≤ 24) (hc : ∀ j : Int, 0 ≤ j → j < pl → okD cd j) (h2 : ∀ k : Int, 0 ≤ k → k < 24 → T2 k = if k < pl then cd k - 48 else T k) : Rel (windU u cd pl) S P Q M T2 pl lot := by
  refine ⟨RS_c h.S (fun k a b => ?_), RP_c h.P (fun k a b => ?_), RQ_c h.Q (fun k a b => ?_), RM_c h.M (fun k a b => ?_), ⟨?_, hp.1, hp.2, fun k a b => ?_, fun k a b => ?_⟩, RL_c h.L ?_⟩
  · unfold windU; rw [if_neg (by omega), if_neg (by omega)]
  · unfold windU; rw [if_neg (by omega), if_neg (by omega)]
  · unfold windU; rw [if_neg (by omega), if_neg (by omega)]
  · unfold windU; rw [if_neg (by omega), if_neg (by omega)]
  · unfold windU; rw [if_pos rfl]
  · rw [h2 k a b]
    have h3 := h.T.2.2.2.1 k a b
    split
    · have := hc k a (by assumption)
      unfold okD at this
      omega
    · exact h3
  · rw [h2 k a (by omega), if_pos b]
    unfold windU
    rw [if_neg (by omega), if_pos (by omega), if_pos (by omega), show 8 + k - 8 = k by omega]
  · unfold windU; rw [if_neg (by omega), if_neg (by omega)]
abbrev vApp (pl c : Int) : Prop := (33 ≤ c ∧ c ≤ 126) ∧ pl < 80
def ansApp (pl c : Int) : Int := if 33 ≤ c ∧ c ≤ 126 then (if pl < 80 then pl + 1 else -3) else -1
noncomputable def ansFault (cd : Int → Int) (pl way : Int) : Int := if way = 0 then fsZ cd pl else if way = 1 then ftZ cd pl else -1
noncomputable def ansDraw (cd u : Int → Int) (pl : Int) : Int := vI (fsZ cd pl = -4) (difP (drZ cd u pl) u 32) (-2)
noncomputable def ansWind (cd : Int → Int) (pl : Int) : Int := vI (ftZ cd pl = -4) pl (-2)
theorem zlk_out2 {a x y b1 b2 d : Int} (h : ¬ a = x ∧ ¬ a = y) : Op.lookupswitch.offset [(x, b1), (y, b2)] d a = d := by
  show (if x = a then b1 else (if y = a then b2 else d)) = d
  rw [if_neg (fun e => h.1 e.symm), if_neg (fun e => h.2 e.symm)]
theorem stp_ok {t b e r q g c t2 b2 e2 r2 q2 g2 : Int} (h : Zok t b e r q g) (hs : stp (t, b, e, r, q, g) c = some (t2, b2, e2, r2, q2, g2)) : Zok t2 b2 e2 r2 q2 g2 := by
  have hg := h.2.2.2.2.2.1
  rcases (show g = 0 ∨ g = 1 ∨ g = 2 ∨ g = 3 ∨ g = 4 ∨ g = 5 ∨ g = 6 ∨ g = 7 ∨ g = 8 ∨ g = 9 from by omega) with rfl | rfl | rfl | rfl | rfl | rfl | rfl | rfl | rfl | rfl
  · rw [stp0] at hs; (repeat' split at hs) <;> first | (cases hs; done) | (simp only [Option.some.injEq, Prod.mk.injEq] at hs; omega)
  · rw [stp1] at hs; (repeat' split at hs) <;> first | (cases hs; done) | (simp only [Option.some.injEq, Prod.mk.injEq] at hs; omega)
  · rw [stp2] at hs; (repeat' split at hs) <;> first | (cases hs; done) | (simp only [Option.some.injEq, Prod.mk.injEq] at hs; omega)
  · rw [stp3] at hs; (repeat' split at hs) <;> first | (cases hs; done) | (simp only [Option.some.injEq, Prod.mk.injEq] at hs; omega)
  · rw [stp4] at hs; (repeat' split at hs) <;> first | (cases hs; done) | (simp only [Option.some.injEq, Prod.mk.injEq] at hs; unfold Zok; refine ⟨?_, ?_, ?_, ?_, ?_, ?_, ?_, ?_⟩ <;> omega)
  · rw [stp5] at hs; (repeat' split at hs) <;> first | (cases hs; done) | (simp only [Option.some.injEq, Prod.mk.injEq] at hs; omega)
  · rw [stp6] at hs; (repeat' split at hs) <;> first | (cases hs; done) | (simp only [Option.some.injEq, Prod.mk.injEq] at hs; omega)
  · rw [stp7] at hs; (repeat' split at hs) <;> first | (cases hs; done) | (simp only [Option.some.injEq, Prod.mk.injEq] at hs; omega)
  · rw [stp8] at hs; (repeat' split at hs) <;> first | (cases hs; done) | (simp only [Option.some.injEq, Prod.mk.injEq] at hs; omega)
  · rw [stp9] at hs; (repeat' split at hs) <;> first | (cases hs; done) | (simp only [Option.some.injEq, Prod.mk.injEq] at hs; omega)
theorem some6 {a b c d e f a2 b2 c2 d2 e2 f2 : Int} (h : a = a2 ∧ b = b2 ∧ c = c2 ∧ d = d2 ∧ e = e2 ∧ f = f2) : some (a, b, c, d, e, f) = some (a2, b2, c2, d2, e2, f2) := by
  obtain ⟨rfl, rfl, rfl, rfl, rfl, rfl⟩ := h
  rfl
theorem rd6 {o : Option Z6} (h : o = none ∨ ∃ t b e r q g, o = some (t, b, e, r, q, g)) : True := trivial
/-- the reader has read some characters and is where they lead -/
def RnS (cd : Int → Int) (i t b e r q g : Int) : Prop := ∃ t2 b2 e2 r2 q2 g2, rnZ cd i = some (t2, b2, e2, r2, q2, g2) ∧ Zsim t b e r q g t2 b2 e2 r2 q2 g2
theorem RnS_0 {cd : Int → Int} {t b e r q : Int} : RnS cd 0 t b e r q 0 := ⟨0, 0, 0, 0, 0, 0, rfl, by omega⟩
theorem RnS_go {cd : Int → Int} {i t b e r q g t2 b2 e2 r2 q2 g2 : Int} (hi : 0 ≤ i) (h : RnS cd i t b e r q g) (hg : 0 ≤ g ∧ g ≤ 9) (hk : stp (t, b, e, r, q, g) (cd i) = some (t2, b2, e2, r2, q2, g2)) : RnS cd (i + 1) t2 b2 e2 r2 q2 g2 := by
  obtain ⟨a1, a2, a3, a4, a5, a6, h1, h2⟩ := h
  rcases stp_sim (c := cd i) h2 hg with ⟨s1, s2⟩ | ⟨t3, b3, e3, r3, q3, g3, t4, b4, e4, r4, q4, g4, s1, s2, s3⟩
  · rw [hk] at s1; cases s1
  · rw [hk] at s1
    simp only [Option.some.injEq, Prod.mk.injEq] at s1
    obtain ⟨rfl, rfl, rfl, rfl, rfl, rfl⟩ := s1
    exact ⟨_, _, _, _, _, _, (rnZ_s hi h1).trans s2, s3⟩
theorem RnS_no {cd : Int → Int} {i len t b e r q g : Int} (hi : 0 ≤ i) (hl : i < len) (h : RnS cd i t b e r q g) (hg : 0 ≤ g ∧ g ≤ 9) (hk : stp (t, b, e, r, q, g) (cd i) = none) : FS cd len i := by
  obtain ⟨a1, a2, a3, a4, a5, a6, h1, h2⟩ := h
  rcases stp_sim (c := cd i) h2 hg with ⟨s1, s2⟩ | ⟨t3, b3, e3, r3, q3, g3, t4, b4, e4, r4, q4, g4, s1, s2, s3⟩
  · exact Or.inl ⟨hi, hl, _, h1, s2⟩
  · rw [hk] at s1; cases s1
theorem RnS_end {cd : Int → Int} {len t b e r q g : Int} (h : RnS cd len t b e r q g) (hg : ¬ g = 9) : FS cd len len := by
  obtain ⟨a1, a2, a3, a4, a5, a6, h1, h2⟩ := h
  exact Or.inr (Or.inl ⟨rfl, _, _, _, _, _, _, h1, by omega⟩)
theorem RnS_ok {cd : Int → Int} {len t b e r q g : Int} (h : RnS cd len t b e r q g) (hg : g = 9) : FS cd len (-4) := by
  obtain ⟨a1, a2, a3, a4, a5, a6, h1, h2⟩ := h
  obtain rfl : a6 = 9 := by omega
  exact Or.inr (Or.inr ⟨rfl, _, _, _, _, _, h1⟩)
theorem RnS_dr {cd u : Int → Int} {i t b e r q g : Int} (hi : 0 ≤ i) (h : RnS cd (i + 1) t b e r q g) : drZ cd u (i + 1) = if g = 9 then layU (drZ cd u i) t e b r q else drZ cd u i := by
  obtain ⟨a1, a2, a3, a4, a5, a6, h1, rfl, h3, h4, h5⟩ := h
  rw [drZ_s hi h1]
  split
  · obtain ⟨rfl, rfl⟩ := h3 (by omega)
    obtain ⟨rfl, rfl⟩ := h4 (by omega)
    obtain rfl := h5 (by omega)
    rfl
  · rfl
theorem RP_lay {u P P2 : Int → Int} {top left bottom right pl : Int} (h : RP u P) (hp : 0 ≤ pl ∧ pl ≤ 4) (h2 : ∀ k : Int, 0 ≤ k → k < 256 → P2 k = if (top ≤ k / 32 ∧ k / 32 ≤ bottom ∧ left ≤ k % 32 ∧ k % 32 ≤ right) then pl else P k) : RP (layU u top left bottom right pl) P2 := fun k a b => by
  have h3 := h k a b
  rw [h2 k a b]
  unfold layU
  by_cases q : top ≤ k / 32 ∧ k / 32 ≤ bottom ∧ left ≤ k % 32 ∧ k % 32 ≤ right
  · rw [if_pos q, if_pos (by omega)]; omega
  · rw [if_neg q, if_neg (by omega)]; exact h3
theorem drN_out {cd u : Int → Int} {k : Int} (h : k < 32 ∨ 288 ≤ k) : ∀ n : Nat, drN cd u n k = u k := by
  intro n
  induction n with
  | zero => rfl
  | succ n ih =>
    rw [drN]
    cases hq : rn cd (n + 1) with
    | none => exact ih
    | some z =>
      obtain ⟨t, b, e, r, q, g⟩ := z
      show (if g = 9 then layU (drN cd u n) t e b r q else drN cd u n) k = u k
      split
      · unfold layU
        rw [if_neg (by omega)]
        exact ih
      · exact ih
theorem Rel_dr {cd u S P Q M T P2 : Int → Int} {len lot c : Int} (h : Rel u S P Q M T len lot) (h2 : RP (drZ cd u c) P2) : Rel (drZ cd u c) S P2 Q M T len lot :=
  ⟨RS_c h.S (fun k a b => drN_out (by omega) _), h2, RQ_c h.Q (fun k a b => drN_out (by omega) _), RM_c h.M (fun k a b => drN_out (by omega) _), RT_c h.T (fun k a b => drN_out (by omega) _), RL_c h.L (drN_out (by omega) _)⟩
theorem FT_ex (cd : Int → Int) (len : Int) : ∃ r, FT cd len r := by
  have key : ∀ n : Nat, (∃ r, FT cd len r) ∨ ∀ j : Int, 0 ≤ j → j < len → j < n → okD cd j := by
    intro n
    induction n with
    | zero => exact Or.inr (fun j a b c => by omega)
    | succ n ih =>
      rcases ih with ih | ih
      · exact Or.inl ih
      · by_cases q : (n : Int) < len ∧ ¬ okD cd n
        · exact Or.inl ⟨n, Or.inl ⟨by omega, q.1, q.2, fun j a b => ih j a (by omega) b⟩⟩
        · refine Or.inr (fun j a b c => ?_)
          by_cases e : j = n
          · subst e
            exact Classical.byContradiction (fun z => q ⟨b, z⟩)
          · exact ih j a b (by omega)
  rcases key len.toNat with h | h
  · exact h
  · by_cases q : 0 < len
    · exact ⟨-4, Or.inr ⟨fun j a b => h j a b (by omega), Or.inl ⟨q, rfl⟩⟩⟩
    · exact ⟨len, Or.inr ⟨fun j a b => h j a b (by omega), Or.inr ⟨by omega, rfl⟩⟩⟩
theorem ftZ_ok {cd : Int → Int} {len : Int} (hl : 0 ≤ len) (h : ftZ cd len = -4) : len ≤ 24 ∧ ∀ j : Int, 0 ≤ j → j < len → okD cd j := by
  have h2 : FT cd len (ftZ cd len) := Classical.epsilon_spec (FT_ex cd len)
  rw [h] at h2
  rcases h2 with ⟨a, -⟩ | ⟨a, b⟩
  · omega
  · refine ⟨?_, a⟩
    by_cases q : 24 < len
    · have := a 24 (by omega) q
      unfold okD at this
      omega
    · omega
