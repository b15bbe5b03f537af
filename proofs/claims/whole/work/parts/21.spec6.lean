/-! ===== what the public looks answer ===== -/
noncomputable def ansAt (u : Int → Int) (row col wh : Int) : Int := if (0 ≤ row ∧ row < 8) ∧ (0 ≤ col ∧ col < 32) ∧ (0 ≤ wh ∧ wh ≤ 7) then atZ u row col wh else -1
noncomputable def ansFits (u : Int → Int) (row col q : Int) : Int := if (0 ≤ row ∧ row < 8) ∧ (0 ≤ col ∧ col < 32) ∧ (0 ≤ q ∧ q ≤ 4) then bI (fitP (u 0) (u 2) (zd u row) col q) else -1
noncomputable def ansRow (u : Int → Int) (row wh : Int) : Int := if (0 ≤ row ∧ row < 8) ∧ (0 ≤ wh ∧ wh ≤ 10) then rowZ u row wh else -1
noncomputable def ansEcho (u : Int → Int) (row e : Int) : Int := if (0 ≤ row ∧ row < 8) ∧ (2 ≤ e ∧ e ≤ 24) then ecZ u row e else -1
noncomputable def ansEchoAt (u : Int → Int) (row pl : Int) : Int := if (0 ≤ row ∧ row < 8) ∧ (0 ≤ pl ∧ pl ≤ 22) then echoAtZ u row pl else -1
noncomputable def ansFaulty (u : Int → Int) (pl : Int) : Int := if 0 ≤ pl ∧ pl < 8 then pickZ (faultZ u) 8 pl else -1
noncomputable def ansPlane (u : Int → Int) (q wh : Int) : Int := if (0 ≤ q ∧ q ≤ 4) ∧ (0 ≤ wh ∧ wh ≤ 3) then planeZ u q wh else -1
noncomputable def ansCount (u : Int → Int) (pl stt wh : Int) : Int := if wh < 0 ∨ 18 < wh then -1 else if 13 ≤ wh then u (wh - 13) else if wh = 0 then zcnt (fun k => 0 < u (32 + k)) 256 else if wh = 9 then u 6 else if wh = 10 then u 7 else if wh = 11 then pl else if wh = 12 then stt else sumZ (fun row => kndR u row (wh - 1)) 8
noncomputable def ansAlike (u : Int → Int) (row q : Int) : Int := if (0 ≤ row ∧ row < 8) ∧ (0 ≤ q ∧ q < 8) then zcnt (fun k => seeR u row k = seeR u q k) 32 else -1
/-- what is seen in a row in which one dot is another -/
noncomputable def seeU (u : Int → Int) (row col dot : Int) : Int → Int := seeZ (u 0) (u 2) (u 3) (zU (zd u row) col dot)
noncomputable def ifpZ (u : Int → Int) (row col dot wh : Int) : Int := if wh = 0 then 32 - zcnt (fun k => seeR u row k = seeU u row col dot k) 32 else if wh = 1 then zcnt (fun k => seeU u row col dot k = zp u row k) 32 else farZ (seeR u row) (seeU u row col dot) col 32
noncomputable def ansIfP (u : Int → Int) (row col dot wh : Int) : Int := if (0 ≤ row ∧ row < 8) ∧ (0 ≤ col ∧ col < 32) ∧ (0 ≤ dot ∧ dot < 8) ∧ (0 ≤ wh ∧ wh ≤ 2) then ifpZ u row col dot wh else -1
/-- how many would be seen right, printed with a period -/
noncomputable def rprZ (u : Int → Int) (row per : Int) : Int := zcnt (fun k => seeZ per (u 2) (u 3) (prZ per (zp u row) (zd u row) (fun j => u (8 + j)) (u 7) (u 1) (u 6) 32).1 k = zp u row k) 32
noncomputable def ansIfPr (u : Int → Int) (row per : Int) : Int := if (0 ≤ row ∧ row < 8) ∧ (6 ≤ per ∧ per ≤ 16) then rprZ u row per else -1
/-- the least of those at which f is the greatest -/
def BestR (f : Int → Int) (lo hi r : Int) : Prop := lo ≤ r ∧ r ≤ hi ∧ ∀ k : Int, lo ≤ k → k ≤ hi → f k < f r ∨ (f k = f r ∧ r ≤ k)
noncomputable def bestZ (f : Int → Int) (lo hi : Int) : Int := Classical.epsilon (BestR f lo hi)
theorem bestZ_of {f : Int → Int} {lo hi r : Int} (h : BestR f lo hi r) : bestZ f lo hi = r := by
  have h2 : BestR f lo hi (bestZ f lo hi) := Classical.epsilon_spec ⟨r, h⟩
  have h3 := h.2.2 _ h2.1 h2.2.1
  have h4 := h2.2.2 _ h.1 h.2.1
  omega
noncomputable def ansShort (u : Int → Int) (row : Int) : Int := if 0 ≤ row ∧ row < 8 then bestZ (rprZ u row) 6 16 else -1
/-- how many are seen right through a window -/
noncomputable def rwnZ (u : Int → Int) (row w : Int) : Int := zcnt (fun k => seeZ (u 0) w (u 3) (zd u row) k = zp u row k) 32
noncomputable def ansBestW (u : Int → Int) (row : Int) : Int := if 0 ≤ row ∧ row < 8 then bestZ (rwnZ u row) 0 3 else -1
theorem kind4 {per : Int} {p d mm sn bd : Int → Int} {c : Int} : kindP per p d mm sn bd 4 c ↔ sn c = p c := by
  unfold kindP
  omega
theorem knd4 {per : Int} {p d mm sn bd : Int → Int} : zcnt (kindP per p d mm sn bd 4) 32 = zcnt (fun k => sn k = p k) 32 := zcnt_congr (fun _ _ _ => kind4)
theorem pickZ_congr {f g : Int → Int} {n pl : Int} (h : ∀ k : Int, 0 ≤ k → k < n → f k = g k) : pickZ f n pl = pickZ g n pl := by
  have e : ∀ (f g : Int → Int), (∀ k : Int, 0 ≤ k → k < n → f k = g k) → ∀ i : Int, 0 ≤ i → i < n → rankZ f n i = rankZ g n i := fun f g h i a b => rankZ_congr ⟨a, b⟩ (fun k c d => by unfold befP; rw [h k c d, h i a b])
  unfold pickZ
  congr 1
  funext r
  exact propext ⟨PickR_congr (e f g h), PickR_congr (e g f (fun k a b => (h k a b).symm))⟩
theorem pickZ_ord {f g : Int → Int} {n pl : Int} (h : ∀ i k : Int, 0 ≤ i → i < n → 0 ≤ k → k < n → (f i < f k ↔ g i < g k)) : pickZ f n pl = pickZ g n pl := by
  have e : ∀ (f g : Int → Int), (∀ i k : Int, 0 ≤ i → i < n → 0 ≤ k → k < n → (f i < f k ↔ g i < g k)) → ∀ i : Int, 0 ≤ i → i < n → rankZ f n i = rankZ g n i := fun f g h i a b => rankZ_congr ⟨a, b⟩ (fun k c d => by
    have h1 := h i k a b c d
    have h2 := h k i c d a b
    unfold befP
    omega)
  unfold pickZ
  congr 1
  funext r
  exact propext ⟨PickR_congr (e f g h), PickR_congr (e g f (fun i k a b c d => (h i k a b c d).symm))⟩
theorem prZ_congr {per len col lot : Int} {p d T p' d' T' : Int → Int} (hpr : ∀ k : Int, 0 ≤ k → k < 32 → p k < per) (hp : ∀ k : Int, 0 ≤ k → k < 32 → p k = p' k) (hd : ∀ k : Int, 0 ≤ k → k < 32 → d k = d' k) (hT : ∀ k : Int, 0 ≤ k → k < len → T k = T' k) : ∀ n : Nat, n ≤ 32 → (∀ k : Int, 0 ≤ k → k < 32 → (prN per p d T len col lot n).1 k = (prN per p' d' T' len col lot n).1 k) ∧ (prN per p d T len col lot n).2 = (prN per p' d' T' len col lot n).2 ∧ 0 ≤ (prN per p d T len col lot n).2.1 := by
  intro n
  induction n with
  | zero => exact fun _ => ⟨hd, rfl, Int.le_refl _⟩
  | succ n ih =>
    intro hn
    obtain ⟨h1, h2, h3⟩ := ih (by omega)
    have hz := zb_r (hpr n (by omega) (by omega))
    have e : zb per p' (n : Int) = zb per p (n : Int) := (zb_congr (hp n (by omega) (by omega))).symm
    unfold prN
    rw [e, ← h2]
    by_cases q : ¬ zb per p (n : Int) = -4
    · rw [if_pos q, if_pos q]
      refine ⟨fun k a b => ?_, rfl, h3⟩
      show zU _ _ _ k = zU _ _ _ k
      unfold zU
      split
      · exact h1 _ (by omega) (by omega)
      · exact h1 k a b
    · rw [if_neg q, if_neg q]
      by_cases q2 : 0 < len
      · rw [if_pos q2, if_pos q2]
        have q3 := zmod_r (prN per p d T len col lot n).2.1 q2
        refine ⟨fun k a b => ?_, rfl, by show 0 ≤ (prN per p d T len col lot n).2.1 + 1; omega⟩
        show zU _ _ _ k = zU _ _ _ k
        unfold zU
        split
        · exact hT _ q3.1 q3.2
        · exact h1 k a b
      · rw [if_neg q2, if_neg q2]
        refine ⟨fun k a b => ?_, rfl, h3⟩
        show zU _ _ _ k = zU _ _ _ k
        unfold zU
        split
        · rfl
        · exact h1 k a b
theorem zU_congr {f g : Int → Int} {c v : Int} (h : ∀ k : Int, 0 ≤ k → k < 32 → f k = g k) : ∀ k : Int, 0 ≤ k → k < 32 → zU f c v k = zU g c v k := by
  intro k a b
  unfold zU
  split
  · rfl
  · exact h k a b
theorem dotsD_of {d : Int → Int} {u : Int → Int} {row : Int} (h : ∀ k : Int, 0 ≤ k → k < 32 → d k = zd u row k) : dotsD d = dotsZ u row := by
  refine zcnt_congr (fun v _ _ => ⟨?_, ?_⟩) <;> rintro ⟨k, a, b, e⟩ <;> refine ⟨k, a, b, ?_⟩
  · rw [← h k a b]; exact e
  · rw [h k a b]; exact e
theorem kndR_r (u : Int → Int) (row kind : Int) : 0 ≤ kndR u row kind ∧ kndR u row kind ≤ 32 := zcnt_r _ (by omega)
