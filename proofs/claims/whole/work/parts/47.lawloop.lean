theorem z35n : ∀ n : Nat, n < 35 → (n = 0 ∨ n = 1 ∨ n = 2 ∨ n = 3 ∨ n = 4 ∨ n = 5 ∨ n = 6 ∨ n = 7 ∨ n = 8 ∨ n = 9 ∨ n = 10 ∨ n = 11 ∨ n = 12 ∨ n = 13 ∨ n = 14 ∨ n = 15 ∨ n = 16 ∨ n = 17 ∨ n = 18 ∨ n = 19 ∨ n = 20 ∨ n = 21 ∨ n = 22 ∨ n = 23 ∨ n = 24 ∨ n = 25 ∨ n = 26 ∨ n = 27 ∨ n = 28 ∨ n = 29 ∨ n = 30 ∨ n = 31 ∨ n = 32 ∨ n = 33 ∨ n = 34) := by
  intro n h
  match n, h with
  | 0, _ => exact Or.inl rfl
  | 1, _ => exact Or.inr (Or.inl rfl)
  | 2, _ => exact Or.inr (Or.inr (Or.inl rfl))
  | 3, _ => exact Or.inr (Or.inr (Or.inr (Or.inl rfl)))
  | 4, _ => exact Or.inr (Or.inr (Or.inr (Or.inr (Or.inl rfl))))
  | 5, _ => exact Or.inr (Or.inr (Or.inr (Or.inr (Or.inr (Or.inl rfl)))))
  | 6, _ => exact Or.inr (Or.inr (Or.inr (Or.inr (Or.inr (Or.inr (Or.inl rfl))))))
  | 7, _ => exact Or.inr (Or.inr (Or.inr (Or.inr (Or.inr (Or.inr (Or.inr (Or.inl rfl)))))))
  | 8, _ => exact Or.inr (Or.inr (Or.inr (Or.inr (Or.inr (Or.inr (Or.inr (Or.inr (Or.inl rfl))))))))
  | 9, _ => exact Or.inr (Or.inr (Or.inr (Or.inr (Or.inr (Or.inr (Or.inr (Or.inr (Or.inr (Or.inl rfl)))))))))
  | 10, _ => exact Or.inr (Or.inr (Or.inr (Or.inr (Or.inr (Or.inr (Or.inr (Or.inr (Or.inr (Or.inr (Or.inl rfl))))))))))
  | 11, _ => exact Or.inr (Or.inr (Or.inr (Or.inr (Or.inr (Or.inr (Or.inr (Or.inr (Or.inr (Or.inr (Or.inr (Or.inl rfl)))))))))))
  | 12, _ => exact Or.inr (Or.inr (Or.inr (Or.inr (Or.inr (Or.inr (Or.inr (Or.inr (Or.inr (Or.inr (Or.inr (Or.inr (Or.inl rfl))))))))))))
  | 13, _ => exact Or.inr (Or.inr (Or.inr (Or.inr (Or.inr (Or.inr (Or.inr (Or.inr (Or.inr (Or.inr (Or.inr (Or.inr (Or.inr (Or.inl rfl)))))))))))))
  | 14, _ => exact Or.inr (Or.inr (Or.inr (Or.inr (Or.inr (Or.inr (Or.inr (Or.inr (Or.inr (Or.inr (Or.inr (Or.inr (Or.inr (Or.inr (Or.inl rfl))))))))))))))
  | 15, _ => exact Or.inr (Or.inr (Or.inr (Or.inr (Or.inr (Or.inr (Or.inr (Or.inr (Or.inr (Or.inr (Or.inr (Or.inr (Or.inr (Or.inr (Or.inr (Or.inl rfl)))))))))))))))
  | 16, _ => exact Or.inr (Or.inr (Or.inr (Or.inr (Or.inr (Or.inr (Or.inr (Or.inr (Or.inr (Or.inr (Or.inr (Or.inr (Or.inr (Or.inr (Or.inr (Or.inr (Or.inl rfl))))))))))))))))
  | 17, _ => exact Or.inr (Or.inr (Or.inr (Or.inr (Or.inr (Or.inr (Or.inr (Or.inr (Or.inr (Or.inr (Or.inr (Or.inr (Or.inr (Or.inr (Or.inr (Or.inr (Or.inr (Or.inl rfl)))))))))))))))))
  | 18, _ => exact Or.inr (Or.inr (Or.inr (Or.inr (Or.inr (Or.inr (Or.inr (Or.inr (Or.inr (Or.inr (Or.inr (Or.inr (Or.inr (Or.inr (Or.inr (Or.inr (Or.inr (Or.inr (Or.inl rfl))))))))))))))))))
  | 19, _ => exact Or.inr (Or.inr (Or.inr (Or.inr (Or.inr (Or.inr (Or.inr (Or.inr (Or.inr (Or.inr (Or.inr (Or.inr (Or.inr (Or.inr (Or.inr (Or.inr (Or.inr (Or.inr (Or.inr (Or.inl rfl)))))))))))))))))))
  | 20, _ => exact Or.inr (Or.inr (Or.inr (Or.inr (Or.inr (Or.inr (Or.inr (Or.inr (Or.inr (Or.inr (Or.inr (Or.inr (Or.inr (Or.inr (Or.inr (Or.inr (Or.inr (Or.inr (Or.inr (Or.inr (Or.inl rfl))))))))))))))))))))
  | 21, _ => exact Or.inr (Or.inr (Or.inr (Or.inr (Or.inr (Or.inr (Or.inr (Or.inr (Or.inr (Or.inr (Or.inr (Or.inr (Or.inr (Or.inr (Or.inr (Or.inr (Or.inr (Or.inr (Or.inr (Or.inr (Or.inr (Or.inl rfl)))))))))))))))))))))
  | 22, _ => exact Or.inr (Or.inr (Or.inr (Or.inr (Or.inr (Or.inr (Or.inr (Or.inr (Or.inr (Or.inr (Or.inr (Or.inr (Or.inr (Or.inr (Or.inr (Or.inr (Or.inr (Or.inr (Or.inr (Or.inr (Or.inr (Or.inr (Or.inl rfl))))))))))))))))))))))
  | 23, _ => exact Or.inr (Or.inr (Or.inr (Or.inr (Or.inr (Or.inr (Or.inr (Or.inr (Or.inr (Or.inr (Or.inr (Or.inr (Or.inr (Or.inr (Or.inr (Or.inr (Or.inr (Or.inr (Or.inr (Or.inr (Or.inr (Or.inr (Or.inr (Or.inl rfl)))))))))))))))))))))))
  | 24, _ => exact Or.inr (Or.inr (Or.inr (Or.inr (Or.inr (Or.inr (Or.inr (Or.inr (Or.inr (Or.inr (Or.inr (Or.inr (Or.inr (Or.inr (Or.inr (Or.inr (Or.inr (Or.inr (Or.inr (Or.inr (Or.inr (Or.inr (Or.inr (Or.inr (Or.inl rfl))))))))))))))))))))))))
  | 25, _ => exact Or.inr (Or.inr (Or.inr (Or.inr (Or.inr (Or.inr (Or.inr (Or.inr (Or.inr (Or.inr (Or.inr (Or.inr (Or.inr (Or.inr (Or.inr (Or.inr (Or.inr (Or.inr (Or.inr (Or.inr (Or.inr (Or.inr (Or.inr (Or.inr (Or.inr (Or.inl rfl)))))))))))))))))))))))))
  | 26, _ => exact Or.inr (Or.inr (Or.inr (Or.inr (Or.inr (Or.inr (Or.inr (Or.inr (Or.inr (Or.inr (Or.inr (Or.inr (Or.inr (Or.inr (Or.inr (Or.inr (Or.inr (Or.inr (Or.inr (Or.inr (Or.inr (Or.inr (Or.inr (Or.inr (Or.inr (Or.inr (Or.inl rfl))))))))))))))))))))))))))
  | 27, _ => exact Or.inr (Or.inr (Or.inr (Or.inr (Or.inr (Or.inr (Or.inr (Or.inr (Or.inr (Or.inr (Or.inr (Or.inr (Or.inr (Or.inr (Or.inr (Or.inr (Or.inr (Or.inr (Or.inr (Or.inr (Or.inr (Or.inr (Or.inr (Or.inr (Or.inr (Or.inr (Or.inr (Or.inl rfl)))))))))))))))))))))))))))
  | 28, _ => exact Or.inr (Or.inr (Or.inr (Or.inr (Or.inr (Or.inr (Or.inr (Or.inr (Or.inr (Or.inr (Or.inr (Or.inr (Or.inr (Or.inr (Or.inr (Or.inr (Or.inr (Or.inr (Or.inr (Or.inr (Or.inr (Or.inr (Or.inr (Or.inr (Or.inr (Or.inr (Or.inr (Or.inr (Or.inl rfl))))))))))))))))))))))))))))
  | 29, _ => exact Or.inr (Or.inr (Or.inr (Or.inr (Or.inr (Or.inr (Or.inr (Or.inr (Or.inr (Or.inr (Or.inr (Or.inr (Or.inr (Or.inr (Or.inr (Or.inr (Or.inr (Or.inr (Or.inr (Or.inr (Or.inr (Or.inr (Or.inr (Or.inr (Or.inr (Or.inr (Or.inr (Or.inr (Or.inr (Or.inl rfl)))))))))))))))))))))))))))))
  | 30, _ => exact Or.inr (Or.inr (Or.inr (Or.inr (Or.inr (Or.inr (Or.inr (Or.inr (Or.inr (Or.inr (Or.inr (Or.inr (Or.inr (Or.inr (Or.inr (Or.inr (Or.inr (Or.inr (Or.inr (Or.inr (Or.inr (Or.inr (Or.inr (Or.inr (Or.inr (Or.inr (Or.inr (Or.inr (Or.inr (Or.inr (Or.inl rfl))))))))))))))))))))))))))))))
  | 31, _ => exact Or.inr (Or.inr (Or.inr (Or.inr (Or.inr (Or.inr (Or.inr (Or.inr (Or.inr (Or.inr (Or.inr (Or.inr (Or.inr (Or.inr (Or.inr (Or.inr (Or.inr (Or.inr (Or.inr (Or.inr (Or.inr (Or.inr (Or.inr (Or.inr (Or.inr (Or.inr (Or.inr (Or.inr (Or.inr (Or.inr (Or.inr (Or.inl rfl)))))))))))))))))))))))))))))))
  | 32, _ => exact Or.inr (Or.inr (Or.inr (Or.inr (Or.inr (Or.inr (Or.inr (Or.inr (Or.inr (Or.inr (Or.inr (Or.inr (Or.inr (Or.inr (Or.inr (Or.inr (Or.inr (Or.inr (Or.inr (Or.inr (Or.inr (Or.inr (Or.inr (Or.inr (Or.inr (Or.inr (Or.inr (Or.inr (Or.inr (Or.inr (Or.inr (Or.inr (Or.inl rfl))))))))))))))))))))))))))))))))
  | 33, _ => exact Or.inr (Or.inr (Or.inr (Or.inr (Or.inr (Or.inr (Or.inr (Or.inr (Or.inr (Or.inr (Or.inr (Or.inr (Or.inr (Or.inr (Or.inr (Or.inr (Or.inr (Or.inr (Or.inr (Or.inr (Or.inr (Or.inr (Or.inr (Or.inr (Or.inr (Or.inr (Or.inr (Or.inr (Or.inr (Or.inr (Or.inr (Or.inr (Or.inr (Or.inl rfl)))))))))))))))))))))))))))))))))
  | 34, _ => exact Or.inr (Or.inr (Or.inr (Or.inr (Or.inr (Or.inr (Or.inr (Or.inr (Or.inr (Or.inr (Or.inr (Or.inr (Or.inr (Or.inr (Or.inr (Or.inr (Or.inr (Or.inr (Or.inr (Or.inr (Or.inr (Or.inr (Or.inr (Or.inr (Or.inr (Or.inr (Or.inr (Or.inr (Or.inr (Or.inr (Or.inr (Or.inr (Or.inr (Or.inr (rfl))))))))))))))))))))))))))))))))))
  | n + 35, h => omega
set_option maxHeartbeats 4000000 in
set_option maxRecDepth 100000 in
theorem law_loop {l : Launch} {D : va_G} {cA cB : ClassId} {K : KT} (C : YC l K RL cL_law 8 { frames := 10, cells := 600000, slots := 7302250, locals := 388 } D (zT cA cB)) {x s ss hh pd h g vw rk b0 b1 b2 b3 b4 c0 c1 c2 c3 c4 hk pc pr a0 a1 a2 a3 a4 a5 e0 e1 e2 e3 e4 e5 y ms ma mp mk md me mo b : Nat} {L : Int} {X : Int → Int} (hzr : ∀ j : Int, zR (X j)) (hsr : SRd K b L X) (hsl : ∀ (k n : Nat) (ws : va_W) (lv : List (Nat × Value)) (pc : Nat) (st : List Value), decode cL_law pc = .ok (.arraylength, 1) → K k n ws lv (pc + 1) (.int (zI L) :: st) → K k n ws lv pc (.ref b :: st)) (hL : 0 ≤ L ∧ L ≤ 3072) (hret : ∀ (ws : va_W) (lv : List (Nat × Value)) (pc : Nat), decode cL_law pc = .ok (.ireturn, 1) → K 66 11376 ws lv pc [.int (zI 1)]) : ∀ (fu : Nat) (i : Int) (has : Int) (P : Int → Int) (Q : Int → Int) (M : Int → Int) (S : Int → Int) (T : Int → Int) (len : Int) (lot : Int) (PS : Int → Int) (QS : Int → Int) (MS : Int → Int) (SS : Int → Int) (TS : Int → Int) (lenS : Int) (lotS : Int) (kA : Nat → Nat → Nat) (kF : Nat → Nat → Int → Int) (kl : Nat → Int) (kt : Nat → Int) (f : Nat → Option Nat) (stt : Int) (pl : Int) (cd : Int → Int) (ta : Int) (bo : Int) (le : Int) (ri : Int) (pn : Int) (sg : Int) (per : Int) (win : Int) (cr : Int) (p : Int → Int) (d : Int → Int) (mm : Int → Int) (sn : Int → Int) (bd : Int → Int) (ch : Int → Int) (perg : Int) (wing : Int) (crg : Int) (pg : Int → Int) (dg : Int → Int) (mmg : Int → Int) (sng : Int → Int) (bdg : Int → Int) (chg : Int → Int) (vi : Int → Int) (ra : Int → Int) (u : Int → Int) (av : Int → Int) (past : Int → Int) (v : Int → Int) (sm : Int → Int) (so : Int → Int) (sp : Int) (wr : Int) (tp : Int) (bt : Int) (lf : Int) (rg : Int) (dp : Int), (0 ≤ i ∧ i ≤ L) → LInv u v past S P Q M T SS PS QS MS TS cd bd bdg ra kF kl kt kA f len lot lenS lotS stt has pl ta bo le ri pn sg → (L + 10 - i).toNat < fu → K 66 11376 [cO x 5 [.ref s, .ref ss, .int (zI has), .ref hh, .ref pd, .ref h, .ref g, .ref vw, .ref rk], cO s 4 [.ref b0, .ref b1, .ref b2, .ref b3, .ref b4, .int (zI len), .int (zI lot)], cI cA b0 256 P, cI cA b1 256 Q, cI cA b2 256 M, cI cA b3 6 S, cI cA b4 24 T, cO ss 4 [.ref c0, .ref c1, .ref c2, .ref c3, .ref c4, .int (zI lenS), .int (zI lotS)], cI cA c0 256 PS, cI cA c1 256 QS, cI cA c2 256 MS, cI cA c3 6 SS, cI cA c4 24 TS, cO hh 0 [.ref hk, .int (zI stt)], cQ cB hk 4 f, cO (kA 0 0) 4 [.ref (kA 0 1), .ref (kA 0 2), .ref (kA 0 3), .ref (kA 0 4), .ref (kA 0 5), .int (zI (kl 0)), .int (zI (kt 0))], cI cA (kA 0 1) 256 (kF 0 0), cI cA (kA 0 2) 256 (kF 0 1), cI cA (kA 0 3) 256 (kF 0 2), cI cA (kA 0 4) 6 (kF 0 3), cI cA (kA 0 5) 24 (kF 0 4), cO (kA 1 0) 4 [.ref (kA 1 1), .ref (kA 1 2), .ref (kA 1 3), .ref (kA 1 4), .ref (kA 1 5), .int (zI (kl 1)), .int (zI (kt 1))], cI cA (kA 1 1) 256 (kF 1 0), cI cA (kA 1 2) 256 (kF 1 1), cI cA (kA 1 3) 256 (kF 1 2), cI cA (kA 1 4) 6 (kF 1 3), cI cA (kA 1 5) 24 (kF 1 4), cO (kA 2 0) 4 [.ref (kA 2 1), .ref (kA 2 2), .ref (kA 2 3), .ref (kA 2 4), .ref (kA 2 5), .int (zI (kl 2)), .int (zI (kt 2))], cI cA (kA 2 1) 256 (kF 2 0), cI cA (kA 2 2) 256 (kF 2 1), cI cA (kA 2 3) 256 (kF 2 2), cI cA (kA 2 4) 6 (kF 2 3), cI cA (kA 2 5) 24 (kF 2 4), cO (kA 3 0) 4 [.ref (kA 3 1), .ref (kA 3 2), .ref (kA 3 3), .ref (kA 3 4), .ref (kA 3 5), .int (zI (kl 3)), .int (zI (kt 3))], cI cA (kA 3 1) 256 (kF 3 0), cI cA (kA 3 2) 256 (kF 3 1), cI cA (kA 3 3) 256 (kF 3 2), cI cA (kA 3 4) 6 (kF 3 3), cI cA (kA 3 5) 24 (kF 3 4), cO pd 2 [.ref pc, .ref pr, .int (zI pl)], cI cA pc 80 cd, cO pr 3 [.int (zI ta), .int (zI bo), .int (zI le), .int (zI ri), .int (zI pn), .int (zI sg)], cO h 1 [.ref a0, .ref a1, .ref a2, .ref a3, .ref a4, .ref a5, .int (zI per), .int (zI win), .int (zI cr)], cI cA a0 32 p, cI cA a1 32 d, cI cA a2 32 mm, cI cA a3 32 sn, cI cA a4 32 bd, cI cA a5 32 ch, cO g 1 [.ref e0, .ref e1, .ref e2, .ref e3, .ref e4, .ref e5, .int (zI perg), .int (zI wing), .int (zI crg)], cI cA e0 32 pg, cI cA e1 32 dg, cI cA e2 32 mmg, cI cA e3 32 sng, cI cA e4 32 bdg, cI cA e5 32 chg, cI cA vw 256 vi, cI cA rk 23 ra, cO y 6 [.ref ms, .ref ma, .ref mp, .int (zI stt), .ref mk, .int (zI has), .ref md, .int (zI pl), .ref me, .ref mo, .int (zI sp), .int (zI wr), .int (zI tp), .int (zI bt), .int (zI lf), .int (zI rg), .int (zI dp)], cI cA ms 800 u, cI cA ma 800 av, cI cA mp 3200 past, cI cA mk 800 v, cI cA md 80 cd, cI cA me 32 sm, cI cA mo 32 so] [(0, .ref b), (1, .ref x), (2, .ref y), (3, .int (zI i))] 18 [] := by
  intro fu
  induction fu with
  | zero => intro i has P Q M S T len lot PS QS MS SS TS lenS lotS kA kF kl kt f stt pl cd ta bo le ri pn sg per win cr p d mm sn bd ch perg wing crg pg dg mmg sng bdg chg vi ra u av past v sm so sp wr tp bt lf rg dp hi hI hf; exact absurd hf (Nat.not_lt_zero _)
  | succ fu ih =>
    intro i has P Q M S T len lot PS QS MS SS TS lenS lotS kA kF kl kt f stt pl cd ta bo le ri pn sg per win cr p d mm sn bd ch perg wing crg pg dg mmg sng bdg chg vi ra u av past v sm so sp wr tp bt lf rg dp hi hI hf
    refine y_iload_n C 3 dL_law_18 rfl ?_
    refine y_aload_n C 0 dL_law_19 rfl ?_
    refine hsl _ _ _ _ _ _ dL_law_20 ?_
    refine y_bipush C dL_law_21 (by decide +kernel) ?_
    refine y_isub C dL_law_23 ?_
    refine y_icmp_gt C 1187 dL_law_24 (by decide) ⟨⟨by omega, by omega⟩, ⟨by omega, by omega⟩⟩ (fun hc => ?_) (fun hc => ?_)
    · refine y_iconst C dL_law_1187 ?_
      exact hret _ _ _ dL_law_1188
    · have hnx : ∀ (has : Int) (P : Int → Int) (Q : Int → Int) (M : Int → Int) (S : Int → Int) (T : Int → Int) (len : Int) (lot : Int) (PS : Int → Int) (QS : Int → Int) (MS : Int → Int) (SS : Int → Int) (TS : Int → Int) (lenS : Int) (lotS : Int) (kA : Nat → Nat → Nat) (kF : Nat → Nat → Int → Int) (kl : Nat → Int) (kt : Nat → Int) (f : Nat → Option Nat) (stt : Int) (pl : Int) (cd : Int → Int) (ta : Int) (bo : Int) (le : Int) (ri : Int) (pn : Int) (sg : Int) (per : Int) (win : Int) (cr : Int) (p : Int → Int) (d : Int → Int) (mm : Int → Int) (sn : Int → Int) (bd : Int → Int) (ch : Int → Int) (perg : Int) (wing : Int) (crg : Int) (pg : Int → Int) (dg : Int → Int) (mmg : Int → Int) (sng : Int → Int) (bdg : Int → Int) (chg : Int → Int) (vi : Int → Int) (ra : Int → Int) (u : Int → Int) (av : Int → Int) (past : Int → Int) (v : Int → Int) (sm : Int → Int) (so : Int → Int) (sp : Int) (wr : Int) (tp : Int) (bt : Int) (lf : Int) (rg : Int) (dp : Int), LInv u v past S P Q M T SS PS QS MS TS cd bd bdg ra kF kl kt kA f len lot lenS lotS stt has pl ta bo le ri pn sg → K 66 11376 [cO x 5 [.ref s, .ref ss, .int (zI has), .ref hh, .ref pd, .ref h, .ref g, .ref vw, .ref rk], cO s 4 [.ref b0, .ref b1, .ref b2, .ref b3, .ref b4, .int (zI len), .int (zI lot)], cI cA b0 256 P, cI cA b1 256 Q, cI cA b2 256 M, cI cA b3 6 S, cI cA b4 24 T, cO ss 4 [.ref c0, .ref c1, .ref c2, .ref c3, .ref c4, .int (zI lenS), .int (zI lotS)], cI cA c0 256 PS, cI cA c1 256 QS, cI cA c2 256 MS, cI cA c3 6 SS, cI cA c4 24 TS, cO hh 0 [.ref hk, .int (zI stt)], cQ cB hk 4 f, cO (kA 0 0) 4 [.ref (kA 0 1), .ref (kA 0 2), .ref (kA 0 3), .ref (kA 0 4), .ref (kA 0 5), .int (zI (kl 0)), .int (zI (kt 0))], cI cA (kA 0 1) 256 (kF 0 0), cI cA (kA 0 2) 256 (kF 0 1), cI cA (kA 0 3) 256 (kF 0 2), cI cA (kA 0 4) 6 (kF 0 3), cI cA (kA 0 5) 24 (kF 0 4), cO (kA 1 0) 4 [.ref (kA 1 1), .ref (kA 1 2), .ref (kA 1 3), .ref (kA 1 4), .ref (kA 1 5), .int (zI (kl 1)), .int (zI (kt 1))], cI cA (kA 1 1) 256 (kF 1 0), cI cA (kA 1 2) 256 (kF 1 1), cI cA (kA 1 3) 256 (kF 1 2), cI cA (kA 1 4) 6 (kF 1 3), cI cA (kA 1 5) 24 (kF 1 4), cO (kA 2 0) 4 [.ref (kA 2 1), .ref (kA 2 2), .ref (kA 2 3), .ref (kA 2 4), .ref (kA 2 5), .int (zI (kl 2)), .int (zI (kt 2))], cI cA (kA 2 1) 256 (kF 2 0), cI cA (kA 2 2) 256 (kF 2 1), cI cA (kA 2 3) 256 (kF 2 2), cI cA (kA 2 4) 6 (kF 2 3), cI cA (kA 2 5) 24 (kF 2 4), cO (kA 3 0) 4 [.ref (kA 3 1), .ref (kA 3 2), .ref (kA 3 3), .ref (kA 3 4), .ref (kA 3 5), .int (zI (kl 3)), .int (zI (kt 3))], cI cA (kA 3 1) 256 (kF 3 0), cI cA (kA 3 2) 256 (kF 3 1), cI cA (kA 3 3) 256 (kF 3 2), cI cA (kA 3 4) 6 (kF 3 3), cI cA (kA 3 5) 24 (kF 3 4), cO pd 2 [.ref pc, .ref pr, .int (zI pl)], cI cA pc 80 cd, cO pr 3 [.int (zI ta), .int (zI bo), .int (zI le), .int (zI ri), .int (zI pn), .int (zI sg)], cO h 1 [.ref a0, .ref a1, .ref a2, .ref a3, .ref a4, .ref a5, .int (zI per), .int (zI win), .int (zI cr)], cI cA a0 32 p, cI cA a1 32 d, cI cA a2 32 mm, cI cA a3 32 sn, cI cA a4 32 bd, cI cA a5 32 ch, cO g 1 [.ref e0, .ref e1, .ref e2, .ref e3, .ref e4, .ref e5, .int (zI perg), .int (zI wing), .int (zI crg)], cI cA e0 32 pg, cI cA e1 32 dg, cI cA e2 32 mmg, cI cA e3 32 sng, cI cA e4 32 bdg, cI cA e5 32 chg, cI cA vw 256 vi, cI cA rk 23 ra, cO y 6 [.ref ms, .ref ma, .ref mp, .int (zI stt), .ref mk, .int (zI has), .ref md, .int (zI pl), .ref me, .ref mo, .int (zI sp), .int (zI wr), .int (zI tp), .int (zI bt), .int (zI lf), .int (zI rg), .int (zI dp)], cI cA ms 800 u, cI cA ma 800 av, cI cA mp 3200 past, cI cA mk 800 v, cI cA md 80 cd, cI cA me 32 sm, cI cA mo 32 so] [(0, .ref b), (1, .ref x), (2, .ref y), (3, .int (zI i))] 1181 [] := by
        intro has P Q M S T len lot PS QS MS SS TS lenS lotS kA kF kl kt f stt pl cd ta bo le ri pn sg per win cr p d mm sn bd ch perg wing crg pg dg mmg sng bdg chg vi ra u av past v sm so sp wr tp bt lf rg dp hJ
        refine y_iinc C 3 [(3, .int (zI (i + 6))), (0, .ref b), (1, .ref x), (2, .ref y)] dL_law_1181 rfl (by decide) rfl ?_
        refine y_goto C 18 dL_law_1184 (by decide) ?_
        refine y_lsub C [1, 2, 3, 0] (lv' := [(0, .ref b), (1, .ref x), (2, .ref y), (3, .int (zI (i + 6)))]) rfl ?_
        exact ih (i + 6) has P Q M S T len lot PS QS MS SS TS lenS lotS kA kF kl kt f stt pl cd ta bo le ri pn sg per win cr p d mm sn bd ch perg wing crg pg dg mmg sng bdg chg vi ra u av past v sm so sp wr tp bt lf rg dp ⟨by omega, by omega⟩ hJ (by omega)
      refine y_aload_n C 0 dL_law_27 rfl ?_
      refine y_iload_n C 3 dL_law_28 rfl ?_
      refine hsr _ _ _ _ _ _ i dL_law_29 (by omega) (by omega) ?_
      refine y_bipush C dL_law_30 (by decide +kernel) ?_
      refine y_iand C dL_law_32 ?_
      obtain ⟨zv, hzv, hzv2⟩ : ∃ z : Int, zI (X i) &&& zI 63 = zI z ∧ zR z := ⟨(zI (X i) &&& zI 63).toInt, (zI_of _).symm, zR_of _⟩
      refine y_val (w := .int (zI zv)) (congrArg Value.int hzv) ?_
      by_cases hq : 0 ≤ zv ∧ zv ≤ 34
      · obtain ⟨nz, rfl⟩ := Int.eq_ofNat_of_zero_le hq.1
        rcases z35n nz (by omega) with rfl | rfl | rfl | rfl | rfl | rfl | rfl | rfl | rfl | rfl | rfl | rfl | rfl | rfl | rfl | rfl | rfl | rfl | rfl | rfl | rfl | rfl | rfl | rfl | rfl | rfl | rfl | rfl | rfl | rfl | rfl | rfl | rfl | rfl | rfl
        · refine y_tin C 188 0 dL_law_33 hzv2 hq rfl rfl (by decide) ?_
          exact law_0 C hzr hsr ⟨hi.1, by omega, hL.2⟩ hI hnx
        · refine y_tin C 251 1 dL_law_33 hzv2 hq rfl rfl (by decide) ?_
          exact law_1 C hzr hsr ⟨hi.1, by omega, hL.2⟩ hI hnx
        · refine y_tin C 284 2 dL_law_33 hzv2 hq rfl rfl (by decide) ?_
          exact law_2 C hzr hsr ⟨hi.1, by omega, hL.2⟩ hI hnx
        · refine y_tin C 317 3 dL_law_33 hzv2 hq rfl rfl (by decide) ?_
          exact law_3 C hzr hsr ⟨hi.1, by omega, hL.2⟩ hI hnx
        · refine y_tin C 340 4 dL_law_33 hzv2 hq rfl rfl (by decide) ?_
          exact law_4 C hzr hsr ⟨hi.1, by omega, hL.2⟩ hI hnx
        · refine y_tin C 363 5 dL_law_33 hzv2 hq rfl rfl (by decide) ?_
          exact law_5 C hzr hsr ⟨hi.1, by omega, hL.2⟩ hI hnx
        · refine y_tin C 376 6 dL_law_33 hzv2 hq rfl rfl (by decide) ?_
          exact law_6 C hzr hsr ⟨hi.1, by omega, hL.2⟩ hI hnx
        · refine y_tin C 419 7 dL_law_33 hzv2 hq rfl rfl (by decide) ?_
          exact law_7 C hzr hsr ⟨hi.1, by omega, hL.2⟩ hI hnx
        · refine y_tin C 442 8 dL_law_33 hzv2 hq rfl rfl (by decide) ?_
          exact law_8 C hzr hsr ⟨hi.1, by omega, hL.2⟩ hI hnx
        · refine y_tin C 475 9 dL_law_33 hzv2 hq rfl rfl (by decide) ?_
          exact law_9 C hzr hsr ⟨hi.1, by omega, hL.2⟩ hI hnx
        · refine y_tin C 498 10 dL_law_33 hzv2 hq rfl rfl (by decide) ?_
          exact law_10 C hzr hsr ⟨hi.1, by omega, hL.2⟩ hI hnx
        · refine y_tin C 521 11 dL_law_33 hzv2 hq rfl rfl (by decide) ?_
          exact law_11 C hzr hsr ⟨hi.1, by omega, hL.2⟩ hI hnx
        · refine y_tin C 534 12 dL_law_33 hzv2 hq rfl rfl (by decide) ?_
          exact law_12 C hzr hsr ⟨hi.1, by omega, hL.2⟩ hI hnx
        · refine y_tin C 557 13 dL_law_33 hzv2 hq rfl rfl (by decide) ?_
          exact law_13 C hzr hsr ⟨hi.1, by omega, hL.2⟩ hI hnx
        · refine y_tin C 570 14 dL_law_33 hzv2 hq rfl rfl (by decide) ?_
          exact law_14 C hzr hsr ⟨hi.1, by omega, hL.2⟩ hI hnx
        · refine y_tin C 583 15 dL_law_33 hzv2 hq rfl rfl (by decide) ?_
          exact law_15 C hzr hsr ⟨hi.1, by omega, hL.2⟩ hI hnx
        · refine y_tin C 596 16 dL_law_33 hzv2 hq rfl rfl (by decide) ?_
          exact law_16 C hzr hsr ⟨hi.1, by omega, hL.2⟩ hI hnx
        · refine y_tin C 639 17 dL_law_33 hzv2 hq rfl rfl (by decide) ?_
          exact law_17 C hzr hsr ⟨hi.1, by omega, hL.2⟩ hI hnx
        · refine y_tin C 682 18 dL_law_33 hzv2 hq rfl rfl (by decide) ?_
          exact law_18 C hzr hsr ⟨hi.1, by omega, hL.2⟩ hI hnx
        · refine y_tin C 715 19 dL_law_33 hzv2 hq rfl rfl (by decide) ?_
          exact law_19 C hzr hsr ⟨hi.1, by omega, hL.2⟩ hI hnx
        · refine y_tin C 748 20 dL_law_33 hzv2 hq rfl rfl (by decide) ?_
          exact law_20 C hzr hsr ⟨hi.1, by omega, hL.2⟩ hI hnx
        · refine y_tin C 781 21 dL_law_33 hzv2 hq rfl rfl (by decide) ?_
          exact law_21 C hzr hsr ⟨hi.1, by omega, hL.2⟩ hI hnx
        · refine y_tin C 804 22 dL_law_33 hzv2 hq rfl rfl (by decide) ?_
          exact law_22 C hzr hsr ⟨hi.1, by omega, hL.2⟩ hI hnx
        · refine y_tin C 837 23 dL_law_33 hzv2 hq rfl rfl (by decide) ?_
          exact law_23 C hzr hsr ⟨hi.1, by omega, hL.2⟩ hI hnx
        · refine y_tin C 850 24 dL_law_33 hzv2 hq rfl rfl (by decide) ?_
          exact law_24 C hzr hsr ⟨hi.1, by omega, hL.2⟩ hI hnx
        · refine y_tin C 873 25 dL_law_33 hzv2 hq rfl rfl (by decide) ?_
          exact law_25 C hzr hsr ⟨hi.1, by omega, hL.2⟩ hI hnx
        · refine y_tin C 926 26 dL_law_33 hzv2 hq rfl rfl (by decide) ?_
          exact law_26 C hzr hsr ⟨hi.1, by omega, hL.2⟩ hI hnx
        · refine y_tin C 977 27 dL_law_33 hzv2 hq rfl rfl (by decide) ?_
          exact law_27 C hzr hsr ⟨hi.1, by omega, hL.2⟩ hI hnx
        · refine y_tin C 1030 28 dL_law_33 hzv2 hq rfl rfl (by decide) ?_
          exact law_28 C hzr hsr ⟨hi.1, by omega, hL.2⟩ hI hnx
        · refine y_tin C 1063 29 dL_law_33 hzv2 hq rfl rfl (by decide) ?_
          exact law_29 C hzr hsr ⟨hi.1, by omega, hL.2⟩ hI hnx
        · refine y_tin C 1086 30 dL_law_33 hzv2 hq rfl rfl (by decide) ?_
          exact law_30 C hzr hsr ⟨hi.1, by omega, hL.2⟩ hI hnx
        · refine y_tin C 1109 31 dL_law_33 hzv2 hq rfl rfl (by decide) ?_
          exact law_31 C hzr hsr ⟨hi.1, by omega, hL.2⟩ hI hnx
        · refine y_tin C 1142 32 dL_law_33 hzv2 hq rfl rfl (by decide) ?_
          exact law_32 C hzr hsr ⟨hi.1, by omega, hL.2⟩ hI hnx
        · refine y_tin C 1155 33 dL_law_33 hzv2 hq rfl rfl (by decide) ?_
          exact law_33 C hzr hsr ⟨hi.1, by omega, hL.2⟩ hI hnx
        · refine y_tin C 1168 34 dL_law_33 hzv2 hq rfl rfl (by decide) ?_
          exact law_34 C hzr hsr ⟨hi.1, by omega, hL.2⟩ hI hnx
      · refine y_tout C 1181 dL_law_33 hzv2 (by omega) (by decide) ?_
        exact hnx has P Q M S T len lot PS QS MS SS TS lenS lotS kA kF kl kt f stt pl cd ta bo le ri pn sg per win cr p d mm sn bd ch perg wing crg pg dg mmg sng bdg chg vi ra u av past v sm so sp wr tp bt lf rg dp hI
