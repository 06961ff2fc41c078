/-! ===== kept and undone ===== -/
theorem Mod_copies {N : pz_M} {k0 k1 : Nat} (h0 : pz_cls k0 = 21) (h1 : pz_cls k1 = 21) (hne : k0 ≠ k1) (l0 : pz_len k0 = 83) (l1 : pz_len k1 = 83) : ∃ N', m_Mod_copies k0 k1 N = some (none, N') ∧ (∀ i, i < 83 → N' k1 i = N k0 i) ∧ ∀ c i, ¬ (c = k1 ∧ i < 83) → N' c i = N c i := by
  have L : ∀ (j : Nat) (x : Int) (N1 : pz_M), 0 ≤ x → x + j = 83 → (∀ i : Nat, (i : Int) < x → N1 k1 i = N k0 i) → (∀ c i, ¬ (c = k1 ∧ i < 83) → N1 c i = N c i) → ∃ N', m_Mod_copies_2 k0 k1 x N1 = some (none, N') ∧ (∀ i, i < 83 → N' k1 i = N k0 i) ∧ ∀ c i, ¬ (c = k1 ∧ i < 83) → N' c i = N c i := by
    intro j
    induction j with
    | zero =>
      intro x N1 a hj b c
      exact ⟨N1, by rw [m_Mod_copies_2_eq _ _ _ _ h0 h1, if_neg (show ¬ x < 83 by omega)], fun i hi => b i (by omega), c⟩
    | succ j ih =>
      intro x N1 a hj b c
      rw [m_Mod_copies_2_eq _ _ _ _ h0 h1, if_pos (show x < 83 by omega), l0, l1, grd_pos (by omega), grd_pos (by omega), bM_eq, ia_eq (by omega) (by omega)]
      refine ih (x + 1) _ (by omega) (by omega) (fun i hi => ?_) (fun c' i z => ?_)
      · rw [wr_at]
        by_cases e : i = x.toNat
        · rw [if_pos e, c k0 x.toNat (fun y => hne y.1), e]
        · rw [if_neg e]; exact b i (by omega)
      · unfold pz_wr
        rw [if_neg (fun y => z ⟨y.1, by omega⟩)]
        exact c c' i z
  rw [m_Mod_copies_eq _ _ _ h0 h1]
  exact L 83 0 N (by omega) (by omega) (fun i hi => by omega) (fun _ _ _ => rfl)
theorem Ter_copy {M : pz_M} {k0 k1 n1 : Nat} (hk0 : pz_cls k0 = 9) (hk1 : pz_cls k1 = 9) (hne : k0 ≠ k1) (h1 : M k1 4 = n1) (hn1 : n1 ≤ 24) (hp : ∀ c, c < n1 → 0 ≤ M (k1 + 1) c ∧ M (k1 + 1) c ≤ 10) :
    ∃ M', m_Terrace_copy k0 k1 M = some (none, M') ∧ (∀ i, i < n1 → M' (k0 + 1) i = M (k1 + 1) i) ∧ (∀ i, i < n1 → M' (k0 + 2) i = M (k1 + 2) i) ∧ (∀ i, i < 9 → M' (k0 + 3) i = M (k1 + 3) i) ∧ M' k0 4 = n1 ∧ M' k0 5 = M k1 5 ∧ M' k0 6 = M k1 6 ∧ rl_load M' k0 n1 ∧ ∀ c i, ¬ (k0 ≤ c ∧ c ≤ k0 + 4) → M' c i = M c i := by
  have c0 := ci_9 hk0
  have c1 := ci_9 hk1
  have e : ∀ c i, c ≠ k0 → pz_wr M k0 4 (M k1 4) c i = M c i := fun c i z => wr_cell z
  obtain ⟨M', a1, a2, a3, a4, a5, a6, a7, a8, a9⟩ := Ter_back (M := pz_wr M k0 4 (M k1 4)) (n0 := n1) (n1 := n1) hk0 hk1 hne (by rw [wr_same, h1]) (by rw [e k1 4 (Ne.symm hne), h1]) hn1 hn1 (fun c hc => by
    rw [if_pos hc, e (k1 + 1) c (by omega)]
    exact hp c hc)
  rw [m_Terrace_copy_eq _ _ _ hk0 hk1, bM_eq, a1, bV_some]
  refine ⟨M', rfl, fun i hi => ?_, fun i hi => ?_, fun i hi => ?_, ?_, ?_, ?_, a8, fun c i z => ?_⟩
  · rw [a2, if_pos (by omega), e _ _ (by omega)]
  · rw [a3, if_pos (by omega), e _ _ (by omega)]
  · rw [a4, if_pos hi, e _ _ (by omega)]
  · rw [a7 4 (by decide) (by decide), wr_same, h1]
  · rw [a5, e _ _ (Ne.symm hne)]
  · rw [a6, e _ _ (Ne.symm hne)]
  · rw [a9 c i z, e c i (by omega)]
theorem ag_keep {M N : pz_M} (h : rl M N) : agree (m_Desk_keep M) (m_Mod_keep N) := by
  obtain ⟨ht, ⟨kc, n, hc, hs, hl⟩, hk, ⟨kr, nr, hr⟩, hpa⟩ := h
  have hc' := hc
  obtain ⟨c0, c1, c2, c3, c4, hn, c6, c7⟩ := hc'
  obtain ⟨M1, a1, a2, a3, a4, a5, a6, a7, a8, a9⟩ := Ter_copy (M := M) (k0 := 59) (k1 := 49) (n1 := n) rfl rfl (by decide) c3 hn (fun c hc => pl_rg (hs.1 c hc).1)
  obtain ⟨N1, b1, b2, b3⟩ := Mod_copies (N := pz_wr (pz_wr N 100 48 1) 100 49 (pz_wr N 100 48 1 100 6)) (k0 := 101) (k1 := 103) rfl rfl (by decide) rfl rfl
  rw [m_Desk_keep_eq, a1, bV_some, bM_eq, m_Mod_keep_eq, bM_eq, bM_eq, b1, bV_some]
  have eN : ∀ c i, c ≠ 103 → c ≠ 100 → N1 c i = N c i := fun c i z y => by rw [b3 c i (fun q => z q.1), wr_cell y, wr_cell y]
  have eN0 : ∀ i, i ≠ 48 → i ≠ 49 → N1 100 i = N 100 i := fun i z y => by rw [b3 100 i (fun q => by omega), wr_idx y, wr_idx z]
  have e103 : ∀ i, i < 83 → N1 103 i = N 101 i := fun i hi => by rw [b2 i hi, wr_cell (by decide), wr_cell (by decide)]
  have eM : ∀ c i, ¬ (59 ≤ c ∧ c ≤ 63) → ¬ (c = 0 ∧ i = 13) → pz_wr M1 0 13 1 c i = M c i := fun c i z y => by
    unfold pz_wr
    rw [if_neg y]
    exact a9 c i z
  have eK : ∀ c i, c ≠ 0 → pz_wr M1 0 13 1 c i = M1 c i := fun c i z => wr_cell z
  refine ⟨M 49 5, _, _, by rw [eM 49 5 (by omega) (by omega)], by rw [eN 101 81 (by decide) (by decide), ← hs.2.2.1], ?_, ⟨kc, n, ?_, ?_, ?_⟩, ?_, ⟨kr, nr, ?_⟩, ?_⟩
  · refine ⟨by rw [eM 29 1 (by omega) (by omega), eN0 8 (by decide) (by decide)]; exact ht.1, by rw [eM 29 1 (by omega) (by omega)]; exact ht.2.1, by rw [eM 29 1 (by omega) (by omega)]; exact ht.2.2.1, fun i hi => ?_⟩
    rw [eM 30 i (by omega) (by omega), eN 107 i (by decide) (by decide)]
    exact ht.2.2.2 i hi
  · exact rl_cases_of hc (eM 0 0 (by omega) (by omega)) (eM 0 1 (by omega) (by omega)) (eM 49 4 (by omega) (by omega)) (fun c i p q => eM c i (by omega) (by omega)) (eN0 6 (by decide) (by decide)) (fun c i p q => eN c i (by omega) (by omega))
  · exact rl_ter_keep hs (fun i => eM _ i (by omega) (by omega)) (fun i => eM _ i (by omega) (by omega)) (fun i => eM _ i (by omega) (by omega)) (fun i => eM _ i (by omega) (by omega)) (fun i => eN _ i (by decide) (by decide))
  · intro q hq
    rw [eM _ q (by omega) (by omega), show pz_wr M1 0 13 1 (49 + 1) = M (49 + 1) from funext fun i => eM _ i (by omega) (by omega)]
    exact hl q hq
  · refine ⟨by rw [wr_same, b3 100 48 (by omega), wr_idx (by decide), wr_same], Or.inr ⟨wr_same, n, hn, by rw [eK 59 4 (by decide), a5], by rw [b3 100 49 (by omega), wr_same, wr_idx (by decide), c4], ?_⟩⟩
    obtain ⟨p1, p2, p3, p4, p5, p6, p7, p8⟩ := hs
    refine ⟨fun c hc => ?_, fun p hp => ?_, ?_⟩
    · rw [eK _ _ (by decide), eK (59 + 2) _ (by decide), a2 c hc, a3 c hc, e103 c (by omega), e103 (24 + c) (by omega), e103 (48 + c) (by omega)]
      exact p1 c hc
    · rw [eK _ _ (by decide), a4 p hp, e103 (72 + p) (by omega), eK 59 5 (by decide), a6]
      exact p2 p hp
    · rw [eK 59 5 (by decide), eK 59 6 (by decide), a6, a7, e103 81 (by decide), e103 82 (by decide)]
      exact ⟨p3, p4, p5, p6, p7, p8⟩
  · exact rl_law_of hr (eM 0 2 (by omega) (by omega)) (eM 0 3 (by omega) (by omega)) (fun k hk => ⟨eM k 3 (by omega) (by omega), eM k 6 (by omega) (by omega)⟩) (fun c i z => eM c i (by omega) (by omega)) (eN0 17 (by decide) (by decide)) (fun c i p q => eN c i (by omega) (by omega))
  · unfold pathOK at hpa ⊢
    rw [eM 42 2 (by omega) (by omega), eM 42 3 (by omega) (by omega)]
    exact hpa
/-- the reference's undo, row by row -/
theorem Mod_undo {N : pz_M} {n kn : Nat} (h6 : N 100 6 = n) (h49 : N 100 49 = kn) (hn : n ≤ 24) (hkn : kn ≤ 24) (w : pz_V) : ∃ N', m_Mod_undo_11 0 w N = some (some (pzI 1), N') ∧ (∀ c i, c ≠ 101 → N' c i = N c i) ∧ (∀ r c : Nat, r < 3 → c < 24 → N' 101 (24 * r + c) = if c < min n kn then N 103 (24 * r + c) else N 101 (24 * r + c)) ∧ ∀ i, 72 ≤ i → i < 83 → N' 101 i = N 103 i := by
  have last : ∀ (j : Nat) (x : Int) (w : pz_V) (N1 : pz_M), 72 ≤ x → x + j = 83 → (∀ c i, c ≠ 101 → N1 c i = N c i) → (∀ i : Nat, 72 ≤ i → (i : Int) < x → N1 101 i = N 103 i) → ∃ N', m_Mod_undo_67 x w N1 = some (some (pzI 1), N') ∧ (∀ c i, c ≠ 101 → N' c i = N c i) ∧ (∀ i, i < 72 → N' 101 i = N1 101 i) ∧ ∀ i, 72 ≤ i → i < 83 → N' 101 i = N 103 i := by
    intro j
    induction j with
    | zero => intro x w N1 a hj b c; exact ⟨N1, by rw [m_Mod_undo_67_eq, if_neg (show ¬ x < 83 by omega)], b, fun _ _ => rfl, fun i p q => c i p (by omega)⟩
    | succ j ih =>
      intro x w N1 a hj b c
      rw [m_Mod_undo_67_eq, if_pos (show x < 83 by omega), grd_pos (by omega), grd_pos (by omega), bM_eq, ia_eq (by omega) (by omega)]
      obtain ⟨N', g1, g2, g3, g4⟩ := ih (x + 1) w (pz_wr N1 101 x.toNat (N1 103 x.toNat)) (by omega) (by omega) (fun c' i z => by rw [wr_cell z]; exact b c' i z) (fun i p q => by
        rw [wr_at]
        by_cases e : i = x.toNat
        · rw [if_pos e, b 103 _ (by decide), e]
        · rw [if_neg e]; exact c i p (by omega))
      exact ⟨N', g1, g2, fun i hi => by rw [g3 i hi, wr_idx (by omega)], g4⟩
  have row : ∀ (r : Nat) (j : Nat) (x : Int) (N1 : pz_M), r < 3 → 0 ≤ x → x + j = ((min n kn : Nat) : Int) → (∀ c i, c ≠ 101 → N1 c i = N c i) → (∀ c : Nat, (c : Int) < x → N1 101 (24 * r + c) = N 103 (24 * r + c)) → ∃ N', m_Mod_undo_19 ((24 * r : Nat) : Int) x N1 = m_Mod_undo_11 ((24 * (r + 1) : Nat) : Int) (pzI ((min n kn : Nat) : Int)) N' ∧ (∀ c i, c ≠ 101 → N' c i = N c i) ∧ (∀ c, c < min n kn → N' 101 (24 * r + c) = N 103 (24 * r + c)) ∧ ∀ i, (i < 24 * r ∨ 24 * r + min n kn ≤ i) → N' 101 i = N1 101 i := by
    intro r j
    induction j with
    | zero =>
      intro x N1 hr a hj b c
      refine ⟨N1, ?_, b, fun c' hc' => c c' (by omega), fun _ _ => rfl⟩
      have ex : x = ((min n kn : Nat) : Int) := by omega
      subst ex
      rw [m_Mod_undo_19_eq, b 100 6 (by decide), b 100 49 (by decide), h6, h49, Mod_min, bI_some, if_neg (by omega), ia_eq (by omega) (by omega)]
      congr 1
    | succ j ih =>
      intro x N1 hr a hj b c
      have ei : (((24 * r : Nat) : Int) + x).toNat = 24 * r + x.toNat := by omega
      rw [m_Mod_undo_19_eq, b 100 6 (by decide), b 100 49 (by decide), h6, h49, Mod_min, bI_some, if_pos (by omega), ia_eq (y := x) (by omega) (by omega), grd_pos (by omega), grd_pos (by omega), bM_eq, ia_eq (by omega) (by omega), ei]
      obtain ⟨N', g1, g2, g3, g4⟩ := ih (x + 1) (pz_wr N1 101 (24 * r + x.toNat) (N1 103 (24 * r + x.toNat))) hr (by omega) (by omega) (fun c' i z => by rw [wr_cell z]; exact b c' i z) (fun c' q => by
        rw [wr_at]
        by_cases e : c' = x.toNat
        · rw [if_pos (by omega), b 103 _ (by decide), e]
        · rw [if_neg (by omega)]; exact c c' (by omega))
      exact ⟨N', g1, g2, g3, fun i hi => by rw [g4 i hi, wr_idx (by omega)]⟩
  have one : ∀ (r : Nat) (w : pz_V) (N1 : pz_M), r < 3 → (∀ c i, c ≠ 101 → N1 c i = N c i) → ∃ N', m_Mod_undo_11 ((24 * r : Nat) : Int) w N1 = m_Mod_undo_11 ((24 * (r + 1) : Nat) : Int) (pzI ((min n kn : Nat) : Int)) N' ∧ (∀ c i, c ≠ 101 → N' c i = N c i) ∧ (∀ c, c < min n kn → N' 101 (24 * r + c) = N 103 (24 * r + c)) ∧ ∀ i, (i < 24 * r ∨ 24 * r + min n kn ≤ i) → N' 101 i = N1 101 i := by
    intro r w N1 hr b
    rw [m_Mod_undo_11_eq, if_pos (by omega)]
    exact row r (min n kn) 0 N1 hr (by omega) (by omega) b (fun c q => by omega)
  obtain ⟨N1, a1, a2, a3, a4⟩ := one 0 w N (by omega) (fun _ _ _ => rfl)
  obtain ⟨N2, b1, b2, b3, b4⟩ := one 1 (pzI ((min n kn : Nat) : Int)) N1 (by omega) a2
  obtain ⟨N3, c1, c2, c3, c4⟩ := one 2 (pzI ((min n kn : Nat) : Int)) N2 (by omega) b2
  obtain ⟨N4, d1, d2, d3, d4⟩ := last 11 72 (pzI ((min n kn : Nat) : Int)) N3 (by omega) (by omega) c2 (fun i p q => by omega)
  refine ⟨N4, ?_, d2, fun r c hr hc => ?_, d4⟩
  · have e1 : m_Mod_undo_11 0 w N = _ := a1
    rw [e1, b1, c1, m_Mod_undo_11_eq, if_neg (by omega)]
    exact d1
  · rw [d3 _ (by omega)]
    by_cases hm : c < min n kn
    · rw [if_pos hm]
      rcases (show r = 0 ∨ r = 1 ∨ r = 2 by omega) with rfl | rfl | rfl
      · rw [c4 _ (by omega), b4 _ (by omega)]; exact a3 c hm
      · rw [c4 _ (by omega)]; exact b3 c hm
      · exact c3 c hm
    · rw [if_neg hm]
      rcases (show r = 0 ∨ r = 1 ∨ r = 2 by omega) with rfl | rfl | rfl
      · rw [c4 _ (by omega), b4 _ (by omega), a4 _ (by omega)]
      · rw [c4 _ (by omega), b4 _ (by omega), a4 _ (by omega)]
      · rw [c4 _ (by omega), b4 _ (by omega), a4 _ (by omega)]
theorem ag_undo {M N : pz_M} (h : rl M N) : agree (m_Desk_undo M) (m_Mod_undo N) := by
  have h' := h
  obtain ⟨ht, ⟨kc, n, hc, hs, hl⟩, ⟨hk, hkk⟩, ⟨kr, nr, hr⟩, hpa⟩ := h'
  have hc' := hc
  obtain ⟨c0, c1, c2, c3, c4, hn, c6, c7⟩ := hc'
  rw [m_Desk_undo_eq, m_Mod_undo_eq, ← hk]
  rcases hkk with h0 | ⟨h1, kn, hkn, k1, k2, hter⟩
  · rw [if_pos h0, if_pos h0]
    exact agree_same h _ rfl rfl
  · rw [if_neg (show ¬ M 0 13 = 0 by omega), if_neg (show ¬ M 0 13 = 0 by omega)]
    obtain ⟨M1, a1, a2, a3, a4, a5, a6, a7, a8, a9⟩ := Ter_back (M := M) (k0 := 49) (k1 := 59) (n0 := n) (n1 := kn) rfl rfl (by decide) c3 k1 hn hkn (fun c hc => by
      by_cases e : c < kn
      · rw [if_pos e]; exact pl_rg (hter.1 c e).1
      · rw [if_neg e]; exact pl_rg (hs.1 c hc).1)
    obtain ⟨N1, b1, b2, b3, b4⟩ := Mod_undo c4 k2 hn hkn pzN
    rw [a1, bV_some, b1]
    refine ⟨1, M1, N1, rfl, rfl, rl_now h ⟨fun c i _ z => a9 c i (by omega), a7 4 (by decide) (by decide)⟩ (fun c i _ z => b2 c i z) (fun n2 hn2 _ => ?_)⟩
    have e2 : n2 = n := by rw [hn2] at c4; omega
    subst e2
    refine ⟨⟨fun c hc => ?_, fun p hp => ?_, ?_⟩, a8⟩
    · have q0 := b3 0 c (by omega) (by omega)
      have q1 := b3 1 c (by omega) (by omega)
      have q2 := b3 2 c (by omega) (by omega)
      rw [show 24 * 0 + c = c by omega] at q0
      rw [show 24 * 1 + c = 24 + c by omega] at q1
      rw [show 24 * 2 + c = 48 + c by omega] at q2
      rw [a2, a3, q0, q1, q2]
      by_cases e : c < min n2 kn
      · rw [if_pos e, if_pos e, if_pos e, if_pos e, if_pos e]; exact hter.1 c (by omega)
      · rw [if_neg e, if_neg e, if_neg e, if_neg e, if_neg e]; exact hs.1 c hc
    · rw [a4, if_pos hp, b4 (72 + p) (by omega) (by omega), a5]
      exact hter.2.1 p hp
    · rw [a5, a6, b4 81 (by omega) (by omega), b4 82 (by omega) (by omega)]
      exact hter.2.2
