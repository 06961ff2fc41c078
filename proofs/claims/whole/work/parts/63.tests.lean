/-! ===== a law is read: tests ===== -/
section
variable {ks cs ms e : Nat} {t : Nat → Int}
theorem add_any (hk : ks = 13 ∨ ks = 21) {M : pz_M} (h : (cs : Int) ≤ M ks 6) (x a : Int) : ∃ r M', m_Law_addStep ks x a M = some (some (pzI r), M') ∧ pX ks cs M M' ∧ M' 29 4 = M 29 4 ∧ (cs : Int) ≤ M' ks 6 := by
  by_cases c : M ks 6 < 256
  · obtain ⟨n, hn⟩ : ∃ n : Nat, M ks 6 = (n : Int) := ⟨(M ks 6).toNat, by omega⟩
    refine ⟨_, _, add_ok hk hn (by omega) x a, (((pX.rf M).wr (Or.inr (Or.inr ⟨by omega, by omega⟩))).wr (Or.inr (Or.inr ⟨by omega, by omega⟩))).wr (Or.inr (Or.inl ⟨rfl, rfl⟩)), ?_, ?_⟩
    · rw [wr_cell (by omega), wr_cell (by omega), wr_cell (by omega)]
    · rw [wr_same]; omega
  · rw [m_Law_addStep_eq _ _ _ _ (lw_cls hk).1, if_neg c]
    exact ⟨_, M, rfl, pX.rf M, rfl, h⟩
theorem cmp_cases (h : Int) : (∃ r : Nat, r ≤ 2 ∧ 0 ≤ h ∧ plc [60, 62, 61] h 0 = (r : Int) ∧ (if h = 60 then (7 : Int) else if h = 62 then 8 else if h = 61 then 9 else -1) = ((7 + r : Nat) : Int)) ∨ (plc [60, 62, 61] h 0 = -1 ∧ (if h = 60 then (7 : Int) else if h = 62 then 8 else if h = 61 then 9 else -1) = -1) := by
  by_cases c0 : h = 60
  · subst c0; exact Or.inl ⟨0, by omega, by omega, rfl, rfl⟩
  by_cases c1 : h = 62
  · subst c1; exact Or.inl ⟨1, by omega, by omega, rfl, rfl⟩
  by_cases c2 : h = 61
  · subst c2; exact Or.inl ⟨2, by omega, by omega, rfl, rfl⟩
  right
  constructor
  · show (if 60 = h then _ else if 62 = h then _ else if 61 = h then _ else (-1 : Int)) = -1
    rw [if_neg (by omega), if_neg (by omega), if_neg (by omega)]
  · rw [if_neg c0, if_neg c1, if_neg c2]
theorem cmp_Y {N : pz_M} {p : Nat} (y : txY N p e t) : (bI (m_Mod_here N) fun r4 M3 => if r4 = (60 : Int) then (m_Mod_readsCompared_52 pzN 7 M3) else (bI (m_Mod_here M3) fun r6 M5 => if r6 = (62 : Int) then (m_Mod_readsCompared_52 pzN 8 M5) else (bI (m_Mod_here M5) fun r8 M7 => if r8 = (61 : Int) then (m_Mod_readsCompared_52 pzN 9 M7) else (m_Mod_readsCompared_52 pzN (-1) M7)))) = m_Mod_readsCompared_52 pzN (if hr p e t = 60 then (7 : Int) else if hr p e t = 62 then 8 else if hr p e t = 61 then 9 else -1) N := by
  rw [Mod_here y, bI_some, Mod_here y, bI_some, Mod_here y, bI_some]
  by_cases c0 : hr p e t = 60
  · rw [if_pos c0, if_pos c0]
  · rw [if_neg c0, if_neg c0]
    by_cases c1 : hr p e t = 62
    · rw [if_pos c1, if_pos c1]
    · rw [if_neg c1, if_neg c1]
      by_cases c2 : hr p e t = 61
      · rw [if_pos c2, if_pos c2]
      · rw [if_neg c2, if_neg c2]
/-- a test that compares -/
theorem tst_cmp (hk : ks = 13 ∨ ks = 21) (hm : ms ≤ cs) (he : e ≤ 240) {d o L p : Nat} {M N : pz_M} {W : List (Nat × Nat)} (h : PQ ks cs ms e t M N p o L W []) (htp : 10 ≤ tpW W) (hc : cs + L + wl W ≤ p) (hw : W.length ≤ p) (ho1 : 1 ≤ o) (ho : o ≤ 6) (hd : 23 ≤ d + 2 * o) : bad ks cs ms M N (bI (m_LawReader_readSum (d - 1) ks o M) fun r4 M3 => if r4 = 0 then some (some (pzI 0), M3) else (grd (6 ≤ d) (bI (m_Tape_placeIn 83 M3) fun r6 M5 => if r6 < 0 then (grd (4 ≤ d) (bI (m_Tape_fail 1 M5) fun r8 M7 => grd (r8 = 0 ∨ r8 = 1) (some (some (pzI r8), M7)))) else (grd (4 ≤ d) (bV (m_Tape_step M5) fun M9 => grd (4 ≤ d) (bI (m_LawReader_readSum (d - 1) ks o M9) fun r11 M10 => grd (4 ≤ d) (bI (m_Law_addStep ks (ia 11 r6) 0 M10) fun r13 M12 => grd (r11 = 0 ∨ r11 = 1) (some (some (pzI r11), M12))))))))) (bI (m_Mod_readsCompared N) fun r6 M5 => if r6 = 0 then some (some (pzI 0), M5) else (m_Mod_readsCondition_92 M5)) ∨ ∃ (M' N' : pz_M) (p' L' : Nat), (bI (m_LawReader_readSum (d - 1) ks o M) fun r4 M3 => if r4 = 0 then some (some (pzI 0), M3) else (grd (6 ≤ d) (bI (m_Tape_placeIn 83 M3) fun r6 M5 => if r6 < 0 then (grd (4 ≤ d) (bI (m_Tape_fail 1 M5) fun r8 M7 => grd (r8 = 0 ∨ r8 = 1) (some (some (pzI r8), M7)))) else (grd (4 ≤ d) (bV (m_Tape_step M5) fun M9 => grd (4 ≤ d) (bI (m_LawReader_readSum (d - 1) ks o M9) fun r11 M10 => grd (4 ≤ d) (bI (m_Law_addStep ks (ia 11 r6) 0 M10) fun r13 M12 => grd (r11 = 0 ∨ r11 = 1) (some (some (pzI r11), M12))))))))) = some (some (pzI 1), M') ∧ (bI (m_Mod_readsCompared N) fun r6 M5 => if r6 = 0 then some (some (pzI 0), M5) else (m_Mod_readsCondition_92 M5)) = bV (m_Mod_endsPiece N') (fun N2 => m_Mod_readsCondition_92 N2) ∧ PQ ks cs ms e t M' N' p' o L' W [true] ∧ cs + L' + wl W ≤ p' ∧ p < p' ∧ pX ks cs M M' ∧ pY ms N N' := by
  rw [m_Mod_readsCompared_eq]
  rcases top_sum (d := d - 1) (g := 0) hk hm he h (by omega) (by omega) hw (by show 0 ≤ 2 * o + 1; omega) ho (by omega) with ⟨M1, N1, a1, a2, a3, a4, a5, a6⟩ | ⟨M1, N1, p1, L1, a1, a2, a3, a4, a5, a6, a7⟩
  · left
    rw [a1, bI_some, if_pos rfl, a2, bI_some, if_pos rfl, bI_some, if_pos rfl]
    exact ⟨M1, N1, rfl, rfl, a3, a4, a5, a6⟩
  · have x1 := a3.1
    have y1 := a3.2.1
    have hp1 := x1.2.2.1
    rw [a1, bI_some, if_neg (show ¬ (1 : Int) = 0 by decide), grd_pos (by omega), in_83 x1, bI_some, a2, bI_some, if_neg (show ¬ (1 : Int) = 0 by decide), cmp_Y y1]
    rcases cmp_cases (hr p1 e t) with ⟨r, r2, h0, q1, q2⟩ | ⟨q1, q2⟩
    · have hpl := hr_lt h0
      have h2 := pq_step hk a3 hpl
      rw [q1, if_neg (show ¬ (r : Int) < 0 by omega), grd_pos (by omega), Tape_step x1, bV_some, grd_pos (by omega), q2, m_Mod_readsCompared_52_eq, if_neg (show ¬ ((7 + r : Nat) : Int) = -1 by omega), step_Y y1, bM_eq]
      have fx : pX ks cs M1 (pz_wr M1 29 2 ((p1 : Int) + 1)) := (pX.rf M1).wr (Or.inl ⟨rfl, by omega⟩)
      have fy : pY ms N1 (pz_wr N1 100 9 ((p1 : Int) + 1)) := (pY.rf N1).wr (Or.inl ⟨rfl, by omega⟩)
      rcases top_sum (d := d - 1) (g := 1) hk hm he h2 (by omega) (by omega) (by omega) (by show 1 ≤ 2 * o + 1; omega) ho (by omega) with ⟨M3, N3, b1, b2, b3, b4, b5, b6⟩ | ⟨M3, N3, p3, L3, b1, b2, b3, b4, b5, b6, b7⟩
      · left
        obtain ⟨u, M4, c1, c2, c3, c4⟩ := add_any (cs := cs) hk b6 (ia 11 (r : Int)) 0
        rw [b1, bI_some, grd_pos (by omega), c1, bI_some, grd_pos (by omega), b2, bI_some, if_pos rfl, bI_some, if_pos rfl]
        exact ⟨M4, N3, rfl, rfl, by rw [c3]; exact b3, ((a6.tr fx).tr b4).tr c2, (a7.tr fy).tr b5, c4⟩
      · right
        have hp3 := b3.1.2.2.1
        obtain ⟨M4, N4, c1, c2, c3, c4, c5⟩ := pq_emit hk hm b3 (by omega) (by decide) (o' := 7 + r) (a := 0) (cur' := [true]) (by omega) (by omega) (Or.inr (Or.inr (Or.inl ⟨by omega, by omega, [], rfl, rfl⟩)))
        have hX : opX (7 + r) = ia 11 (r : Int) := by
          rw [ia_eq (by omega) (by omega)]
          have : ∀ o : Fin 3, opX (7 + o.val) = 11 + (o.val : Int) := by decide
          exact this ⟨r, by omega⟩
        rw [hX] at c1
        have c1' : m_Law_addStep ks (ia 11 (r : Int)) 0 M3 = some (some (pzI ((cs + L3 : Nat) : Int)), M4) := c1
        have c2' : m_Mod_notes ((7 + r : Nat) : Int) 0 N3 = some (none, N4) := c2
        rw [b1, bI_some, grd_pos (by omega), c1', bI_some, grd_pos (by omega), b2, bI_some, if_neg (show ¬ (1 : Int) = 0 by decide), c2', bV_some]
        refine ⟨M4, N4, p3, L3 + 1, rfl, ?_, c3, by omega, by omega, ((a6.tr fx).tr b6).tr c4, ((a7.tr fy).tr b7).tr c5⟩
        cases hz : m_Mod_endsPiece N4 with
        | none => rfl
        | some z =>
          obtain ⟨z1, z2⟩ := z
          cases z1 with
          | none => rfl
          | some z3 => rfl
    · left
      rw [q1, if_pos (show (-1 : Int) < 0 by decide), grd_pos (by omega), fail_X x1, bI_some, grd_pos (by omega), q2, m_Mod_readsCompared_52_eq, if_pos rfl, fail_Y, bI_some, grd_pos (by omega), bI_some, if_pos rfl, y1.1]
      exact bad_tr a6 a7 (bad_at hk a3 _ rfl rfl)
theorem test_step (hk : ks = 13 ∨ ks = 21) (hm : ms ≤ cs) (he : e ≤ 240) {m : Nat} (ih : ∀ p, e - p < m → TstP ks cs ms e t p ∧ ChoP ks cs ms e t p) : ∀ p, e - p < m + 1 → TstP ks cs ms e t p := by
  intro p hp d o L M N W h htp hc hw ho1 ho hd
  have x := h.1
  have y := h.2.1
  have hpe := x.2.2.1
  rw [m_LawReader_readTest_eq _ _ _ _ (lw_cls hk).1, grd_pos (by omega), Tape_peek x, bI_some, m_Mod_readsCondition_40_eq, Mod_here y, bI_some]
  by_cases c40 : hr p e t = 40
  · have hpl := hr_lt (show 0 ≤ hr p e t by omega)
    rw [if_pos c40, if_neg (show ¬ hr p e t = 33 by omega), Mod_here y, bI_some, if_pos c40, m_Mod_readsCondition_58_eq, Mod_here y, bI_some, if_neg (show ¬ hr p e t = 33 by omega), m_Mod_readsCondition_75_eq, m_LawReader_readTest_17_eq _ _ _ _ _ _ _ (lw_cls hk).1]
    by_cases c6 : o < 6
    · obtain ⟨N1, a1, a2, a3, a4⟩ := opens_ok hk h hpl (by omega) (k := 13) ⟨by omega, by omega⟩ (by omega) (by omega) c6
      have a1' : m_Mod_opens 13 N = some (some (pzI 1), N1) := a1
      rw [if_pos (show (o : Int) < 6 by omega), grd_pos (by omega), Tape_step x, bV_some, if_pos c40, grd_pos (by omega), m_LawReader_readChoice_eq _ _ _ _ (lw_cls hk).1, ia_eq (x := (o : Int)) (by omega) (by omega), a1', bI_some, if_neg (show ¬ (1 : Int) = 0 by decide)]
      have hwl : wl ((13, 0) :: W) = wl W + 1 := rfl
      have hwn : ((13, 0) :: W).length = W.length + 1 := rfl
      rcases (ih (p + 1) (by omega)).2 (d - 1) (o + 1) L 0 _ N1 W none none a2 (by show cs + L + wl ((13, 0) :: W) ≤ p + 1; omega) (by show ((13, 0) :: W).length ≤ p + 1; omega) (by omega) (by omega) (by omega) (by omega) with ⟨M2, N2, b1, b2, b3, b4, b5, b6⟩ | ⟨M2, N2, N3, p2, L2, b1, b2, b3, b4, b5, b6, b7, b8, b9, b10, b11, b12⟩
      · have b1' : m_LawReader_readChoice_8 (d - 1) ks ((o : Int) + 1) (-1) (-1) 0 (pz_wr M 29 2 ((p : Int) + 1)) = some (some (pzI 0), M2) := b1
        left
        rw [b1', bI_some, if_pos rfl]
        exact ⟨M2, N2, rfl, b2, b3, a3.tr b4, a4.tr b5, b6⟩
      · have b1' : m_LawReader_readChoice_8 (d - 1) ks ((o : Int) + 1) (-1) (-1) 0 (pz_wr M 29 2 ((p : Int) + 1)) = some (some (pzI 1), M2) := b1
        have x2 := b7.1
        have hp2 := x2.2.2.1
        rw [b1', bI_some, if_neg (show ¬ (1 : Int) = 0 by decide), grd_pos (by omega), m_Tape_pass_eq, Tape_peek x2, bI_some, b2, m_Mod_readsCondition_92_eq, Mod_here b3, bI_some]
        by_cases c41 : hr p2 e t = 41
        · have hpl2 := hr_lt (show 0 ≤ hr p2 e t by omega)
          right
          have q1 := pq_pop b7 rfl ⟨by omega, by omega⟩ (by omega)
          have e13 : pz_wr N3 100 15 (isb (N3 100 15) 1) 100 13 = ((o + 1 : Nat) : Int) := q1.2.2.2.1
          have q2 := pq_open q1 o
          have q3 := pq_step hk q2 hpl2
          have e9 : pz_wr (pz_wr N3 100 15 (isb (N3 100 15) 1)) 100 13 (o : Int) 100 9 = (p2 : Int) := q2.2.1.1
          have e15 := q3.2.2.2.2.1
          have hW0 : 0 < W.length := by
            cases W with
            | nil => exact absurd htp (by decide)
            | cons _ _ => exact Nat.succ_pos _
          rw [if_pos c41, if_pos c41, Tape_step x2, bV_some, bI_some, if_neg (show ¬ (1 : Int) = 0 by decide), b6, bV_some, bM_eq, bM_eq, bM_eq, e13, isb_eq (x := ((o + 1 : Nat) : Int)) (by omega) (by omega), show ((o + 1 : Nat) : Int) - 1 = (o : Int) by omega, e9, ia_eq (x := (p2 : Int)) (by omega) (by omega), e15, if_neg (show ¬ (W.length : Int) = 0 by omega)]
          exact ⟨_, _, p2 + 1, L2, rfl, rfl, q3, by omega, by omega, (a3.tr b10).tr ((pX.rf M2).wr (Or.inl ⟨rfl, by omega⟩)), ((a4.tr b11).tr (((pY.rf N3).wr (Or.inl ⟨rfl, by omega⟩)).wr (Or.inl ⟨rfl, by omega⟩))).tr ((pY.rf _).wr (Or.inl ⟨rfl, by omega⟩))⟩
        · left
          rw [if_neg c41, if_neg c41, fail_X x2, bI_some, grd_pos (by omega), bI_some, if_pos rfl, Mod_here b3, bI_some, if_neg b4, Mod_here b3, bI_some, if_neg b5, fail_Y, bI_some, grd_pos (by omega), b3.1]
          exact ⟨_, _, rfl, rfl, by rw [wr_same, wr_same], (a3.tr b10).wr (Or.inl ⟨rfl, by omega⟩), (a4.tr b12).wr (Or.inl ⟨rfl, by omega⟩), by rw [wr_cell (by omega), pq_6 b7]; omega⟩
    · have o6 : o = 6 := by omega
      left
      rw [if_neg (show ¬ (o : Int) < 6 by omega), grd_pos (by omega), fail_X x, bI_some, grd_pos (by omega), opens_no h o6, bI_some, if_pos rfl]
      exact bad_at hk h _ rfl rfl
  · rw [if_neg c40]
    by_cases c33 : hr p e t = 33
    · have hpl := hr_lt (show 0 ≤ hr p e t by omega)
      rw [if_pos c33, if_pos c33, m_Mod_readsCondition_58_eq, Mod_here y, bI_some, if_pos c33, m_Mod_readsCondition_75_eq, m_LawReader_readTest_17_eq _ _ _ _ _ _ _ (lw_cls hk).1]
      by_cases c6 : o < 6
      · obtain ⟨N1, a1, a2, a3, a4⟩ := opens_ok hk h hpl (by omega) (k := 10) ⟨by omega, by omega⟩ (by omega) (by omega) c6
        have a1' : m_Mod_opens 10 N = some (some (pzI 1), N1) := a1
        rw [if_pos (show (o : Int) < 6 by omega), grd_pos (by omega), Tape_step x, bV_some, if_neg c40, grd_pos (by omega), ia_eq (x := (o : Int)) (by omega) (by omega), a1', bI_some, if_neg (show ¬ (1 : Int) = 0 by decide)]
        have hwl : wl ((10, 0) :: W) = wl W + 1 := rfl
        have hwn : ((10, 0) :: W).length = W.length + 1 := rfl
        rcases (ih (p + 1) (by omega)).1 (d - 1) (o + 1) L _ N1 ((10, 0) :: W) a2 (by show (10 : Int) ≤ ((10 : Nat) : Int); omega) (by omega) (by omega) (by omega) (by omega) (by omega) with ⟨M2, N2, b1, b2, b3, b4, b5, b6⟩ | ⟨M2, N2, p2, L2, b1, b2, b3, b4, b5, b6, b7⟩
        · left
          have b1' : m_LawReader_readTest (d - 1) ks ((o : Int) + 1) (pz_wr M 29 2 ((p : Int) + 1)) = some (some (pzI 0), M2) := b1
          obtain ⟨u, M4, c1, c2, c3, c4⟩ := add_any (cs := cs) hk b6 3 0
          rw [b1', bI_some, grd_pos (by omega), c1, bI_some, grd_pos (by omega), b2]
          exact ⟨M4, N2, rfl, rfl, by rw [c3]; exact b3, (a3.tr b4).tr c2, a4.tr b5, c4⟩
        · right
          have b1' : m_LawReader_readTest (d - 1) ks ((o : Int) + 1) (pz_wr M 29 2 ((p : Int) + 1)) = some (some (pzI 1), M2) := b1
          have hp2 := b3.1.2.2.1
          obtain ⟨M3, N3, c1, c2, c3, c4, c5⟩ := pq_emit hk hm b3 (by omega) (by decide) (o' := 10) (a := 0) (cur' := [true]) (by omega) (by omega) (Or.inr (Or.inr (Or.inr ⟨rfl, [], rfl, rfl⟩)))
          have c1' : m_Law_addStep ks 3 0 M2 = some (some (pzI ((cs + L2 : Nat) : Int)), M3) := c1
          have c2' : m_Mod_notes 10 0 N2 = some (none, N3) := c2
          have q1 := pq_pop c3 rfl ⟨by omega, by omega⟩ (by omega)
          have e13 : pz_wr N3 100 15 (isb (N3 100 15) 1) 100 13 = ((o + 1 : Nat) : Int) := q1.2.2.2.1
          have q2 := pq_open q1 o
          have ht : m_Mod_waitTop N2 = some (some (pzI ((10 : Nat) : Int)), N2) := top_Y b3 (by omega)
          have ee : m_Mod_endsPiece N2 = m_Mod_endsPiece (pz_wr (pz_wr N3 100 15 (isb (N3 100 15) 1)) 100 13 (o : Int)) := by
            rw [m_Mod_endsPiece_eq, ht, bI_some, if_pos (show ((10 : Nat) : Int) = 10 from rfl), c2', bV_some, bM_eq, bM_eq, e13, isb_eq (x := ((o + 1 : Nat) : Int)) (by omega) (by omega), show ((o + 1 : Nat) : Int) - 1 = (o : Int) by omega, ep_0]
          rw [b1', bI_some, grd_pos (by omega), c1', bI_some, grd_pos (by omega), b2, ee]
          exact ⟨M3, _, p2, L2 + 1, rfl, rfl, q2, by omega, by omega, (a3.tr b6).tr c4, ((a4.tr b7).tr c5).tr (((pY.rf N3).wr (Or.inl ⟨rfl, by omega⟩)).wr (Or.inl ⟨rfl, by omega⟩))⟩
      · have o6 : o = 6 := by omega
        left
        rw [if_neg (show ¬ (o : Int) < 6 by omega), grd_pos (by omega), fail_X x, bI_some, grd_pos (by omega), opens_no h o6, bI_some, if_pos rfl]
        exact bad_at hk h _ rfl rfl
    · rw [if_neg c33, if_neg c33, Mod_here y, bI_some, if_neg c40, grd_pos (by omega)]
      exact tst_cmp hk hm he h htp hc hw ho1 ho hd
end
