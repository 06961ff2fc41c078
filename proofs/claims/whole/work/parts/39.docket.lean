theorem dk_loop {ks e : Nat} {t : Nat → Int} {u1 u3 : pz_V} (hks : ks = 1 ∨ ks = 7) : ∀ (j l : Nat) (M N : pz_M) (p : Nat), l + j = 24 → txX M p e t → txY N p e t → rdD M N ks l →
    (∃ M' N', m_Docket_readFrom_16 ks (l : Int) M = some (some (pzI 0), M') ∧ (bI (m_Mod_readsCase N) fun r K => m_Mod_docket_57 u1 r u3 K) = m_Mod_docket_97 u1 0 u3 N' ∧ M' 29 4 = N' 100 11 ∧ kXd ks M M' ∧ kY N N') ∨
    (∃ M' N' l', m_Docket_readFrom_16 ks (l : Int) M = some (some (pzI 1), M') ∧ (bI (m_Mod_readsCase N) fun r K => m_Mod_docket_57 u1 r u3 K) = m_Mod_docket_97 u1 1 u3 N' ∧ rdD M' N' ks l' ∧ kXd ks M M' ∧ kY N N') := by
  have hcl := dk_cls hks
  intro j
  induction j with
  | zero =>
    intro l M N p hj hX hN hI
    obtain ⟨M', N', g1, g2, g3, g4, g5⟩ := (dk_line hks hX hN hI).2 (by omega)
    left
    rw [m_Docket_readFrom_16_eq _ _ _ hcl, if_neg (show ¬ 24 < (l : Int) by omega), g1, bI_some, if_pos rfl, g2, bI_some, m_Mod_docket_57_eq, if_pos rfl]
    exact ⟨M', N', rfl, rfl, g3, g4, g5⟩
  | succ j ih =>
    intro l M N p hj hX hN hI
    rw [m_Docket_readFrom_16_eq _ _ _ hcl, if_neg (show ¬ 24 < (l : Int) by omega)]
    rcases (dk_line hks hX hN hI).1 with ⟨M', N', g1, g2, g3, g4, g5⟩ | ⟨M', N', p', g1, g2, g3, g4, g5, g6, g7⟩
    · left
      rw [g1, bI_some, if_pos rfl, g2, bI_some, m_Mod_docket_57_eq, if_pos rfl]
      exact ⟨M', N', rfl, rfl, g3, g4, g5⟩
    · rw [g1, bI_some, if_neg (show ¬ (1 : Int) = 0 by omega), g2, bI_some, m_Mod_docket_57_eq, if_neg (show ¬ (1 : Int) = 0 by omega), m_Tape_atEnd_eq, g3.1, g3.2.1, g4.1, g4.2.1]
      by_cases c : (p' : Int) < e
      · rw [if_pos c, if_pos c, bI_some, if_pos rfl]
        rcases sgn_ok (x := 59) (by omega) g3 g4 with ⟨_, M2, N2, q1, q2, q3⟩ | ⟨_, M2, N2, q1, q2, q3, q4, q5, q6, q7⟩
        · left
          rw [q1, bI_some, if_pos rfl, q2, bI_some, if_pos rfl, m_Mod_docket_57_eq, if_pos rfl]
          exact ⟨M2, N2, rfl, rfl, q3.1, g6.tr q3.2.1.k.tod, g7.tr q3.2.2.k⟩
        · rw [q1, bI_some, if_neg (show ¬ (1 : Int) = 0 by omega), q2, bI_some, if_neg (show ¬ (1 : Int) = 0 by omega), ia_eq (by omega) (by omega)]
          have hI2 : rdD M2 N2 ks (l + 1) := by
            obtain ⟨a1, a2, a3, a4, a5, a6⟩ := g5
            have fx : ∀ c i, c ≠ 29 → M2 c i = M' c i := fun c i h => q6 c i (Or.inl h)
            have fy : ∀ c i, c ≠ 100 → N2 c i = N' c i := fun c i h => q7 c i (Or.inl h)
            refine ⟨by rw [fx _ _ (by omega)]; exact a1, by rw [q7 100 36 (by omega)]; exact a2, a3, ?_, ?_, ?_⟩
            · intro c hc
              have := a4 c hc
              unfold cwD at this ⊢
              rw [fx (ks + 1) c (by omega), fx (ks + 2) c (by omega), fx (ks + 3) c (by omega), fy 121 c (by omega), fy 122 c (by omega), fy 123 c (by omega)]
              exact this
            · intro c hc
              rw [fx (ks + 4) c (by omega), fy 124 c (by omega)]
              exact a5 c hc
            · intro q hq
              rw [fx (ks + 5) q (by omega), fy 125 q (by omega)]
              exact a6 q hq
          have same : (bI (m_Mod_readsCase N2) fun r4 M3 => if r4 = 0 then m_Mod_docket_57 u1 0 u3 M3 else m_Mod_docket_57 u1 1 u3 M3) = (bI (m_Mod_readsCase N2) fun r K => m_Mod_docket_57 u1 r u3 K) := by
            rcases (dk_line hks q3 q4 hI2).1 with ⟨M3, N3, _, s2, _⟩ | ⟨M3, N3, p3, _, s2, _⟩
            · rw [s2, bI_some, bI_some, if_pos rfl]
            · rw [s2, bI_some, bI_some, if_neg (show ¬ (1 : Int) = 0 by omega)]
          rw [same]
          rcases ih (l + 1) M2 N2 (p' + 1) (by omega) q3 q4 hI2 with ⟨M3, N3, s1, s2, s3, s4, s5⟩ | ⟨M3, N3, l3, s1, s2, s3, s4, s5⟩
          · exact Or.inl ⟨M3, N3, s1, s2, s3, (g6.tr q6.k.tod).tr s4, (g7.tr q7.k).tr s5⟩
          · exact Or.inr ⟨M3, N3, l3, s1, s2, s3, (g6.tr q6.k.tod).tr s4, (g7.tr q7.k).tr s5⟩
      · right
        rw [if_neg c, if_neg c, bI_some, if_neg (show ¬ (1 : Int) = 0 by omega)]
        exact ⟨M', N', l + 1, rfl, rfl, g5, g6, g7⟩
/-- a docket that failed leaves all as it was -/
theorem rl_dk {M N M' N' : pz_M} {ks : Nat} (h : rl M N) (h1 : M 0 1 = ks) (hX : kXd ks M M') (hY : kY N N') : rl M' N' := by
  obtain ⟨hT, ⟨kc, n, hc, ht, hl⟩, hk, ⟨kr, nr, hw⟩, hp⟩ := h
  obtain ⟨c0, c1, c2, c3, c4, c5, c6, c7⟩ := hc
  have hks : ks = 1 ∧ kc = 7 ∨ ks = 7 ∧ kc = 1 := by omega
  have g : ∀ c i, (c = 0 ∨ c = 30 ∨ (kc ≤ c ∧ c ≤ kc + 5) ∨ (49 ≤ c ∧ c ≤ 53) ∨ (59 ≤ c ∧ c ≤ 63) ∨ (14 ≤ c ∧ c ≤ 18) ∨ (22 ≤ c ∧ c ≤ 26)) → M' c i = M c i := fun c i z => hX c i (cX_row (by omega)) (by omega)
  refine ⟨?_, ⟨kc, n, ?_, rl_ter_keep ht (fun i => g _ i (by omega)) (fun i => g _ i (by omega)) (fun i => g _ i (by omega)) (fun i => g _ i (by omega)) (fun i => hY _ i (cY_row (by omega))), ?_⟩, ?_, ⟨kr, nr, ?_⟩, ?_⟩
  · unfold rl_tape at hT ⊢
    rw [hX 29 1 rfl (by omega), hY 100 8 rfl]
    refine ⟨hT.1, hT.2.1, hT.2.2.1, fun i hi => ?_⟩
    rw [g 30 i (by omega), hY 107 i (cY_row (by omega))]
    exact hT.2.2.2 i hi
  · refine ⟨c0, by rw [g 0 0 (by omega)]; exact c1, by rw [g 0 1 (by omega)]; exact c2, by rw [g 49 4 (by omega)]; exact c3, by rw [hY 100 6 rfl]; exact c4, c5, by rw [g kc 5 (by omega)]; exact c6, fun c hc => ?_⟩
    rw [g (kc + 1) c (by omega), g (kc + 2) c (by omega), g (kc + 3) c (by omega), hY 104 c (cY_row (by omega)), hY 105 c (cY_row (by omega)), hY 106 c (cY_row (by omega))]
    exact c7 c hc
  · unfold rl_load at hl ⊢
    intro q hq
    have e : M' 50 = M 50 := funext fun i => g 50 i (by omega)
    rw [show (49 + 4 : Nat) = 53 from rfl, show (49 + 1 : Nat) = 50 from rfl, g 53 q (by omega), e]
    exact hl q hq
  · exact rl_kept_of hk (g 0 13 (by omega)) (fun c i z1 z2 => g c i (by omega)) (hY 100 48 rfl) (hY 100 49 rfl) (fun i => hY 103 i (cY_row (by omega)))
  · refine rl_law_of hw (g 0 2 (by omega)) (g 0 3 (by omega)) ?_ (fun c i z => g c i (by omega)) (hY 100 17 rfl) (fun c i z1 z2 => hY c i (cY_row (by omega)))
    intro k hk
    rcases hk with rfl | rfl
    · exact ⟨hX 13 3 rfl (by omega), hX 13 6 rfl (by omega)⟩
    · exact ⟨hX 21 3 rfl (by omega), hX 21 6 rfl (by omega)⟩
  · unfold pathOK at hp ⊢
    rw [hX 42 2 rfl (by omega), hX 42 3 rfl (by omega)]
    exact hp
def dkI (N0 N : pz_M) (x : Nat) : Prop := (∀ c, c < x → N 104 c = N0 121 c ∧ N 105 c = N0 122 c ∧ N 106 c = N0 123 c ∧ N 101 c = (if N0 124 c = -1 then 0 else 1) ∧ N 101 (24 + c) = N0 124 c ∧ N 101 (48 + c) = 0) ∧ (∀ c i, c ≠ 101 → c ≠ 104 → c ≠ 105 → c ≠ 106 → N c i = N0 c i) ∧ (∀ i, 72 ≤ i → N 101 i = N0 101 i)
theorem Mod_dkNow {N0 : pz_M} {n : Nat} (hn : n ≤ 24) (h6 : N0 100 6 = n) {w1 w2 : pz_V} : ∀ (j x : Nat) (N : pz_M), x + j = n → dkI N0 N x → ∃ N', m_Mod_docket_121 w1 w2 (x : Int) N = m_Mod_docket_221 w1 w2 0 N' ∧ dkI N0 N' n := by
  intro j
  induction j with
  | zero =>
    intro x N hj hI
    have e : x = n := by omega
    subst e
    exact ⟨N, by rw [m_Mod_docket_121_eq, hI.2.1 100 6 (by decide) (by decide) (by decide) (by decide), h6, if_neg (show ¬ (x : Int) < x by omega)], hI⟩
  | succ j ih =>
    intro x N hj hI
    have st : ∀ (s : Int), s = (if N0 124 x = -1 then 0 else 1) → ∃ N', m_Mod_docket_187 w1 w2 (x : Int) s (ia 0 (x : Int)) (pz_wr (pz_wr (pz_wr N 104 x (N0 121 x)) 105 x (N0 122 x)) 106 x (N0 123 x)) = m_Mod_docket_221 w1 w2 0 N' ∧ dkI N0 N' n := by
      intro s hs
      rw [m_Mod_docket_187_eq, ia_eq (x := 0) (by omega) (by omega), ia_eq (x := 24) (by omega) (by omega), ia_eq (x := 48) (by omega) (by omega), ia_eq (x := (x : Int)) (by omega) (by omega), grd_pos (by omega), bM_eq, grd_pos (by omega), grd_pos (by omega), bM_eq, grd_pos (by omega), bM_eq, show (0 + (x : Int)).toNat = x by omega, show (24 + (x : Int)).toNat = 24 + x by omega, show (48 + (x : Int)).toNat = 48 + x by omega, show ((x : Nat) : Int).toNat = x from rfl, wr_cell (c := 124) (k := 101) (by decide), wr_cell (c := 124) (k := 106) (by decide), wr_cell (c := 124) (k := 105) (by decide), wr_cell (c := 124) (k := 104) (by decide), hI.2.1 124 x (by decide) (by decide) (by decide) (by decide)]
      refine ih (x + 1) _ (by omega) ?_
      have r101 : ∀ i, pz_wr (pz_wr (pz_wr (pz_wr (pz_wr (pz_wr N 104 x (N0 121 x)) 105 x (N0 122 x)) 106 x (N0 123 x)) 101 x s) 101 (24 + x) (N0 124 x)) 101 (48 + x) 0 101 i = if i = 48 + x then 0 else if i = 24 + x then N0 124 x else if i = x then s else N 101 i := by
        intro i
        rw [wr_at, wr_at, wr_at, wr_cell (by decide), wr_cell (by decide), wr_cell (by decide)]
      have ro : ∀ c i, c ≠ 101 → pz_wr (pz_wr (pz_wr (pz_wr (pz_wr (pz_wr N 104 x (N0 121 x)) 105 x (N0 122 x)) 106 x (N0 123 x)) 101 x s) 101 (24 + x) (N0 124 x)) 101 (48 + x) 0 c i = pz_wr (pz_wr (pz_wr N 104 x (N0 121 x)) 105 x (N0 122 x)) 106 x (N0 123 x) c i := fun c i h => by rw [wr_cell h, wr_cell h, wr_cell h]
      generalize pz_wr (pz_wr (pz_wr (pz_wr (pz_wr (pz_wr N 104 x (N0 121 x)) 105 x (N0 122 x)) 106 x (N0 123 x)) 101 x s) 101 (24 + x) (N0 124 x)) 101 (48 + x) 0 = N1 at r101 ro
      refine ⟨fun c hc => ?_, fun c i z1 z2 z3 z4 => ?_, fun i hi => ?_⟩
      · rw [ro 104 c (by decide), ro 105 c (by decide), ro 106 c (by decide), r101, r101, r101, wr_cell (c := 104) (k := 106) (by decide), wr_cell (c := 104) (k := 105) (by decide), wr_cell (c := 105) (k := 106) (by decide), wr_at, wr_at, wr_at, wr_cell (c := 105) (k := 104) (by decide), wr_cell (c := 106) (k := 105) (by decide), wr_cell (c := 106) (k := 104) (by decide)]
        by_cases ec : c = x
        · subst ec
          rw [if_pos rfl, if_pos rfl, if_pos rfl, if_neg (show ¬ c = 48 + c by omega), if_neg (show ¬ c = 24 + c by omega), if_pos rfl, if_neg (show ¬ 24 + c = 48 + c by omega), if_pos rfl, if_pos rfl]
          exact ⟨rfl, rfl, rfl, hs, rfl, rfl⟩
        · rw [if_neg ec, if_neg ec, if_neg ec, if_neg (show ¬ c = 48 + x by omega), if_neg (show ¬ c = 24 + x by omega), if_neg ec, if_neg (show ¬ 24 + c = 48 + x by omega), if_neg (show ¬ 24 + c = 24 + x by omega), if_neg (show ¬ 24 + c = x by omega), if_neg (show ¬ 48 + c = 48 + x by omega), if_neg (show ¬ 48 + c = 24 + x by omega), if_neg (show ¬ 48 + c = x by omega)]
          exact hI.1 c (by omega)
      · rw [ro c i z1, wr_cell z4, wr_cell z3, wr_cell z2]
        exact hI.2.1 c i z1 z2 z3 z4
      · rw [r101, if_neg (by omega), if_neg (by omega), if_neg (by omega)]
        exact hI.2.2 i hi
    rw [m_Mod_docket_121_eq, hI.2.1 100 6 (by decide) (by decide) (by decide) (by decide), h6, if_pos (show (x : Int) < n by omega), grd_pos (by omega), grd_pos (by omega), bM_eq, grd_pos (by omega), grd_pos (by omega), bM_eq, grd_pos (by omega), grd_pos (by omega), bM_eq, grd_pos (by omega), show ((x : Nat) : Int).toNat = x from rfl, wr_cell (c := 124) (k := 106) (by decide), wr_cell (c := 124) (k := 105) (by decide), wr_cell (c := 124) (k := 104) (by decide), hI.2.1 124 x (by decide) (by decide) (by decide) (by decide), wr_cell (c := 123) (k := 105) (by decide), wr_cell (c := 123) (k := 104) (by decide), hI.2.1 123 x (by decide) (by decide) (by decide) (by decide), wr_cell (c := 122) (k := 104) (by decide), hI.2.1 122 x (by decide) (by decide) (by decide) (by decide), hI.2.1 121 x (by decide) (by decide) (by decide) (by decide)]
    by_cases z : N0 124 x = -1
    · rw [if_pos z]; exact st 0 (by rw [if_pos z])
    · rw [if_neg z]; exact st 1 (by rw [if_neg z])
theorem Mod_dkCries {w1 w2 : pz_V} : ∀ (j x : Nat) (N : pz_M), x + j = 9 → (∀ q, q < x → N 101 (72 + q) = 0) → ∃ N', m_Mod_docket_221 w1 w2 (x : Int) N = some (some (pzI (N 100 6)), N') ∧ (∀ q, q < 9 → N' 101 (72 + q) = 0) ∧ (∀ c i, (c ≠ 101 ∨ i < 72 ∨ 81 ≤ i) → N' c i = N c i) := by
  intro j
  induction j with
  | zero =>
    intro x N hj hq
    exact ⟨N, by rw [m_Mod_docket_221_eq, if_neg (show ¬ (x : Int) < 9 by omega)], fun q h => hq q (by omega), fun c i _ => rfl⟩
  | succ j ih =>
    intro x N hj hq
    rw [m_Mod_docket_221_eq, if_pos (show (x : Int) < 9 by omega), ia_eq (x := 72) (by omega) (by omega), grd_pos (by omega), bM_eq, ia_eq (by omega) (by omega), show (72 + (x : Int)).toNat = 72 + x by omega]
    obtain ⟨N', g1, g2, g3⟩ := ih (x + 1) (pz_wr N 101 (72 + x) 0) (by omega) (fun q h => by
      rw [wr_at]
      by_cases e : q = x
      · rw [if_pos (by omega)]
      · rw [if_neg (by omega)]; exact hq q (by omega))
    refine ⟨N', by rw [show (x : Int) + 1 = ((x + 1 : Nat) : Int) from rfl, g1, wr_cell (by decide)], g2, fun c i z => ?_⟩
    rw [g3 c i z]
    unfold pz_wr
    rw [if_neg (by omega)]
