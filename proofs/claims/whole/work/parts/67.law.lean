/-! ===== law: the call ===== -/
theorem Mod_law95 {u v : pz_V} {cy : Nat} (hc : cy ≤ 260) : ∀ (j x : Nat) (N : pz_M), x + j = cy → N 100 14 = cy → (∀ i, i < x → N 114 i = N 108 i) → ∃ N', m_Mod_law_95 u v (x : Int) N = m_Mod_law_123 u v 0 N' ∧ (∀ i, i < cy → N' 114 i = N 108 i) ∧ ∀ c i, c ≠ 114 → N' c i = N c i := by
  intro j
  induction j with
  | zero =>
    intro x N hx h14 hi
    rw [m_Mod_law_95_eq, h14, if_neg (show ¬ (x : Int) < (cy : Int) by omega)]
    exact ⟨N, rfl, fun i h => hi i (by omega), fun _ _ _ => rfl⟩
  | succ j ih =>
    intro x N hx h14 hi
    rw [m_Mod_law_95_eq, h14, if_pos (show (x : Int) < (cy : Int) by omega), grd_pos (by omega), grd_pos (by omega), bM_eq, ia_eq (by omega) (by omega), show ((x : Nat) : Int).toNat = x from rfl]
    obtain ⟨N', a1, a2, a3⟩ := ih (x + 1) (pz_wr N 114 x (N 108 x)) (by omega) (by rw [wr_cell (by decide)]; exact h14) (fun i h => by
      rw [wr_cell (show (108 : Nat) ≠ 114 by decide), wr_at]
      by_cases e : i = x
      · rw [if_pos e, e]
      · rw [if_neg e]; exact hi i (by omega))
    exact ⟨N', a1, fun i h => by rw [a2 i h, wr_cell (by decide)], fun c i z => by rw [a3 c i z, wr_cell z]⟩
theorem Mod_law123 {u v : pz_V} {r : Nat} (hr : r ≤ 16) : ∀ (j x : Nat) (N : pz_M), x + j = r → N 100 16 = r → (∀ c i, 110 ≤ c → c ≤ 113 → i < x → N (c + 5) i = N c i) → ∃ N', m_Mod_law_123 u v (x : Int) N = some (some (pzI (r : Int)), N') ∧ (∀ c i, 110 ≤ c → c ≤ 113 → i < r → N' (c + 5) i = N c i) ∧ ∀ c i, (c < 115 ∨ 118 < c) → N' c i = N c i := by
  intro j
  induction j with
  | zero =>
    intro x N hx h16 hi
    rw [m_Mod_law_123_eq, h16, if_neg (show ¬ (x : Int) < (r : Int) by omega)]
    exact ⟨N, rfl, fun c i a b h => hi c i a b (by omega), fun _ _ _ => rfl⟩
  | succ j ih =>
    intro x N hx h16 hi
    rw [m_Mod_law_123_eq, h16, if_pos (show (x : Int) < (r : Int) by omega), grd_pos (by omega), grd_pos (by omega), bM_eq, grd_pos (by omega), grd_pos (by omega), bM_eq, grd_pos (by omega), grd_pos (by omega), bM_eq, grd_pos (by omega), grd_pos (by omega), bM_eq, ia_eq (by omega) (by omega), show ((x : Nat) : Int).toNat = x from rfl]
    obtain ⟨N1, hN1⟩ : ∃ N1, N1 = pz_wr (pz_wr (pz_wr (pz_wr N 115 x (N 110 x)) 116 x (pz_wr N 115 x (N 110 x) 111 x)) 117 x (pz_wr (pz_wr N 115 x (N 110 x)) 116 x (pz_wr N 115 x (N 110 x) 111 x) 112 x)) 118 x (pz_wr (pz_wr (pz_wr N 115 x (N 110 x)) 116 x (pz_wr N 115 x (N 110 x) 111 x)) 117 x (pz_wr (pz_wr N 115 x (N 110 x)) 116 x (pz_wr N 115 x (N 110 x) 111 x) 112 x) 113 x) := ⟨_, rfl⟩
    rw [← hN1]
    have o : ∀ c i, (c < 115 ∨ 118 < c) → N1 c i = N c i := fun c i z => by rw [hN1, wr_cell (by omega), wr_cell (by omega), wr_cell (by omega), wr_cell (by omega)]
    have o2 : ∀ c i, i ≠ x → N1 c i = N c i := fun c i z => by rw [hN1]; unfold pz_wr; rw [if_neg (by omega), if_neg (by omega), if_neg (by omega), if_neg (by omega)]
    have w0 : N1 115 x = N 110 x := by rw [hN1, wr_cell (by decide), wr_cell (by decide), wr_cell (by decide), wr_same]
    have w1 : N1 116 x = N 111 x := by rw [hN1, wr_cell (by decide), wr_cell (by decide), wr_same, wr_cell (by decide)]
    have w2 : N1 117 x = N 112 x := by rw [hN1, wr_cell (by decide), wr_same, wr_cell (by decide), wr_cell (by decide)]
    have w3 : N1 118 x = N 113 x := by rw [hN1, wr_same, wr_cell (by decide), wr_cell (by decide), wr_cell (by decide)]
    obtain ⟨N', a1, a2, a3⟩ := ih (x + 1) N1 (by omega) (by rw [o 100 16 (by omega)]; exact h16) (fun c i c1 c2 h => by
      rw [o c i (by omega)]
      by_cases e : i = x
      · rw [e]
        rcases (show c = 110 ∨ c = 111 ∨ c = 112 ∨ c = 113 by omega) with rfl | rfl | rfl | rfl
        · exact w0
        · exact w1
        · exact w2
        · exact w3
      · rw [o2 _ i e]; exact hi c i c1 c2 (by omega))
    exact ⟨N', a1, fun c i c1 c2 h => by rw [a2 c i c1 c2 h, o c i (by omega)], fun c i z => by rw [a3 c i z, o c i z]⟩
/-- all but a law that is being read -/
def kXl (ks : Nat) (M M' : pz_M) : Prop := ∀ c i, cX c i = true → ¬ (ks ≤ c ∧ c ≤ ks + 7) → M' c i = M c i
theorem rl_lw {M N M' N' : pz_M} {ks : Nat} (h : rl M N) (h3 : M 0 3 = ks) (hX : kXl ks M M') (hY : kY N N') : rl M' N' := by
  obtain ⟨hT, ⟨kc, n, hc, ht, hl⟩, hk, ⟨kr, nr, hw⟩, hp⟩ := h
  have hkr := hw.1
  have hks : ks = 13 ∧ kr = 21 ∨ ks = 21 ∧ kr = 13 := by have := hw.2.2.1; omega
  have g : ∀ c i, (c = 0 ∨ c = 30 ∨ (1 ≤ c ∧ c ≤ 12) ∨ (49 ≤ c ∧ c ≤ 53) ∨ (59 ≤ c ∧ c ≤ 63) ∨ (kr + 1 ≤ c ∧ c ≤ kr + 5)) → M' c i = M c i := fun c i z => hX c i (cX_row (by omega)) (by omega)
  refine ⟨?_, ⟨kc, n, ?_, rl_ter_keep ht (fun i => g _ i (by omega)) (fun i => g _ i (by omega)) (fun i => g _ i (by omega)) (fun i => g _ i (by omega)) (fun i => hY _ i (cY_row (by omega))), ?_⟩, ?_, ⟨kr, nr, ?_⟩, ?_⟩
  · unfold rl_tape at hT ⊢
    rw [hX 29 1 rfl (by omega), hY 100 8 rfl]
    refine ⟨hT.1, hT.2.1, hT.2.2.1, fun i hi => ?_⟩
    rw [g 30 i (by omega), hY 107 i (cY_row (by omega))]
    exact hT.2.2.2 i hi
  · exact rl_cases_of hc (g 0 0 (by omega)) (g 0 1 (by omega)) (g 49 4 (by omega)) (fun c i a b => g c i (by omega)) (hY 100 6 rfl) (fun c i a b => hY c i (cY_row (by omega)))
  · intro q hq
    have e : M' (49 + 1) = M (49 + 1) := funext fun i => g 50 i (by omega)
    rw [g (49 + 4) q (by omega), e]
    exact hl q hq
  · exact rl_kept_of hk (g 0 13 (by omega)) (fun c i a b => g c i (by omega)) (hY 100 48 rfl) (hY 100 49 rfl) (fun i => hY 103 i (cY_row (by omega)))
  · unfold rl_law at hw ⊢
    obtain ⟨h0, h1, h2, h3', h4, h5, h6, h7, h8⟩ := hw
    have e3 : M' kr 3 = M kr 3 := hX kr 3 (by rcases h0 with rfl | rfl <;> rfl) (by omega)
    have e6 : M' kr 6 = M kr 6 := hX kr 6 (by rcases h0 with rfl | rfl <;> rfl) (by omega)
    refine ⟨h0, by rw [g 0 2 (by omega)]; exact h1, by rw [g 0 3 (by omega)]; exact h2, by rw [e3]; exact h3', by rw [hY 100 17 rfl]; exact h4, h5, by rw [e6]; exact h6, by rw [e6]; exact h7, fun r hr => ?_⟩
    obtain ⟨kd, cv, ct, mf, mh, mt, a1, a2, a3, a4, a5, a6, a7, a8, b1, b2, b3, b4, b5⟩ := h8 r hr
    refine ⟨kd, cv, ct, mf, mh, mt, a1, by rw [g (kr + 1) r (by omega)]; exact a2, by rw [hY 115 r (cY_row (by omega))]; exact a3, by rw [g (kr + 2) r (by omega)]; exact a4, by rw [g (kr + 3) r (by omega)]; exact a5, by rw [hY 116 r (cY_row (by omega))]; exact a6, by rw [hY 117 r (cY_row (by omega))]; exact a7, by rw [hY 118 r (cY_row (by omega))]; exact a8, b1, b2, b3, fun q => rl_seg_keep (b4 q) (fun i => g (kr + 4) i (by omega)) (fun i => g (kr + 5) i (by omega)) e6 (fun i => hY 114 i (cY_row (by omega))), rl_seg_keep b5 (fun i => g (kr + 4) i (by omega)) (fun i => g (kr + 5) i (by omega)) e6 (fun i => hY 114 i (cY_row (by omega)))⟩
  · unfold pathOK at hp ⊢
    rw [hX 42 2 rfl (by omega), hX 42 3 rfl (by omega)]
    exact hp
theorem qX.l {ks : Nat} {M M' : pz_M} (hk : ks = 13 ∨ ks = 21) (h : qX ks M M') : kXl ks M M' := fun c i q z => h c i (by
  unfold cX at q
  simp only [Bool.or_eq_true, Bool.and_eq_true, decide_eq_true_eq] at q
  omega) (by omega) (by omega)
theorem qY.k {N N' : pz_M} (h : qY N N') : kY N N' := fun c i q => by
  unfold cY at q
  simp only [Bool.or_eq_true, Bool.and_eq_true, decide_eq_true_eq] at q
  exact h c i (by omega) (by omega)
theorem kXl.tr {ks : Nat} {M M1 M2 : pz_M} (h : kXl ks M M1) (h2 : kXl ks M1 M2) : kXl ks M M2 := fun c i q z => (h2 c i q z).trans (h c i q z)
theorem seg_of {M N M' N' : pz_M} {ks cs ms len cx : Nat} {fin : Bool} (h : sgm M N ks cs ms len fin cx) (hcx : cx ≤ 250) (h6 : M' ks 6 = (cx : Int)) (hm : ms + len ≤ 250) (h4 : ∀ i, M' (ks + 4) i = M (ks + 4) i) (h5 : ∀ i, M' (ks + 5) i = M (ks + 5) i) (h8 : ∀ i, i < ms + len → N' 114 i = N 108 i) : rl_seg M' N' ks cs ms len fin := by
  obtain ⟨⟨ty, op, arg, a1, a2, a3⟩, b1, b2⟩ := h
  refine ⟨ty, op, arg, a1, a2, by omega, by rw [h6]; omega, by rw [h4]; exact b2, by omega, fun j hj => ?_⟩
  rw [h4, h5, h8 (ms + j) (by omega)]
  exact a3 j hj
theorem ag_law {M N : pz_M} (h : rl M N) (x : Int) : agree (m_Desk_law x M) (m_Mod_law x N) := by
  have hT := h.1
  rw [m_Desk_law_eq, m_Mod_law_eq, Tape_take, Mod_in, bI_some, b01_ite]
  by_cases hx : 1 ≤ x ∧ x ≤ 240
  rotate_left
  · rw [if_neg hx, if_neg (show ¬ (1 ≤ x ∧ x ≤ 240 ∧ x ≤ M 29 1) by omega), bI_some, if_pos rfl]
    exact agree_same h _ rfl rfl
  rw [if_pos hx]
  by_cases ht : x ≤ M 29 1
  rotate_left
  · rw [if_neg (show ¬ (1 ≤ x ∧ x ≤ 240 ∧ x ≤ M 29 1) by omega), bI_some, if_pos rfl, if_pos (show N 100 8 < x by rw [← hT.1]; omega)]
    exact agree_same h _ rfl rfl
  rw [if_pos (show (1 ≤ x ∧ x ≤ 240 ∧ x ≤ M 29 1) by omega), bI_some, if_neg (show ¬ (1 : Int) = 0 by omega), if_neg (show ¬ N 100 8 < x by rw [← hT.1]; omega)]
  obtain ⟨y, ey⟩ : ∃ y : Nat, x = y := ⟨x.toNat, by omega⟩
  subst ey
  have h2 := rl_tk h y
  have hX0 := txX_tk hT (show (y : Int) ≤ M 29 1 by omega)
  have hb := hT.2.2.2
  generalize tk M y = M1 at h2 hX0
  have h2' := h2
  obtain ⟨hT1, ⟨kc, n0, hc1, ht1, hl1⟩, hk1, ⟨kr, nr, hw1⟩, hp1⟩ := h2'
  have hkr := hw1.1
  have h02 : M1 0 2 = kr := hw1.2.1
  obtain ⟨ks, eks, eks2⟩ : ∃ ks : Nat, M1 0 3 = ks ∧ (ks = 13 ∧ kr = 21 ∨ ks = 21 ∧ kr = 13) := ⟨34 - kr, by have := hw1.2.2.1; omega⟩
  have hks : ks = 13 ∨ ks = 21 := by omega
  have hcl := (lw_cls hks).1
  rw [eks, show ((ks : Nat) : Int).toNat = ks from rfl, m_LawReader_readInto_eq _ _ hcl, m_Law_clear_eq _ _ hcl, bM_eq, bM_eq, bV_some, m_Mod_beginsText_eq, bM_eq, bM_eq, bM_eq, bM_eq, bV_some]
  obtain ⟨M2, hM2⟩ : ∃ M2, M2 = pz_wr (pz_wr M1 ks 3 0) ks 6 0 := ⟨_, rfl⟩
  rw [← hM2]
  have m2o : ∀ c i, ¬ (c = ks ∧ (i = 3 ∨ i = 6)) → M2 c i = M1 c i := by
    intro c i z2
    rw [hM2]
    unfold pz_wr
    rw [if_neg (by omega), if_neg (by omega)]
  have m23 : M2 ks 3 = ((0 : Nat) : Int) := by rw [hM2, wr_idx (by decide), wr_same]; rfl
  have m26 : M2 ks 6 = ((0 : Nat) : Int) := by rw [hM2, wr_same]; rfl
  obtain ⟨N2, hN2⟩ : ∃ N2, N2 = pz_wr (pz_wr (pz_wr (pz_wr N 100 9 0) 100 10 (y : Int)) 100 14 0) 100 16 0 := ⟨_, rfl⟩
  rw [← hN2]
  have n2o : ∀ c i, c ≠ 100 → N2 c i = N c i := fun c i z => by rw [hN2, wr_cell z, wr_cell z, wr_cell z, wr_cell z]
  have n29 : N2 100 9 = ((0 : Nat) : Int) := by rw [hN2, wr_idx (by decide), wr_idx (by decide), wr_idx (by decide), wr_same]; rfl
  have n210 : N2 100 10 = (y : Int) := by rw [hN2, wr_idx (by decide), wr_idx (by decide), wr_same]
  have n214 : N2 100 14 = ((0 : Nat) : Int) := by rw [hN2, wr_idx (by decide), wr_same]; rfl
  have n216 : N2 100 16 = ((0 : Nat) : Int) := by rw [hN2, wr_same]; rfl
  have ky : kY N N2 := by rw [hN2]; exact ((((kY.rf N).wr rfl).wr rfl).wr rfl).wr rfl
  have hX : txX M2 0 y (M 30) := by
    obtain ⟨b1, b2, b3, b4, b5⟩ := hX0
    refine ⟨by rw [m2o _ _ (by omega)]; exact b1, by rw [m2o _ _ (by omega)]; exact b2, b3, b4, fun i hi => ?_⟩
    rw [m2o _ _ (by omega)]
    exact b5 i hi
  have hN : txY N2 0 y (M 30) := by
    refine ⟨n29, n210, by omega, by omega, fun i hi => ?_⟩
    rw [n2o _ _ (by decide)]
    have := hb i hi
    exact ⟨this.1, this.2.1, this.2.2.symm⟩
  have kx : kXl ks M1 M2 := fun c i q z => m2o c i (by omega)
  have hRS : RS ks y (M 30) M2 N2 0 0 0 0 := ⟨hX, hN, hcl, m23, m26, n216, n214, Nat.le_refl 0, Nat.le_refl 0, fun q hq => absurd hq (Nat.not_lt_zero q)⟩
  rcases law_loop (u1 := pzI (y : Int)) (u3 := pzN) hks (by omega) 16 0 M2 N2 0 0 0 pzN pzN pzN (by omega) hRS with ⟨M', N', g1, g2, g3, g4, g5⟩ | ⟨M', N', p', r', cx', cy', g1, g2, g3, g3', g4, g5⟩
  · rw [show m_LawReader_readInto_6 ks 0 pzN pzN pzN M2 = some (some (pzI 0), M') from g1, bI_some, if_pos rfl, g2, m_Mod_law_71_eq, bM_eq, if_pos rfl, wr_idx (by decide), ← g3]
    exact ⟨_, M', _, rfl, rfl, rl_lw h2 eks (kx.tr (g4.l hks)) (kY_8 (ky.tr g5.k) 0)⟩
  · have kxx : kXl ks M1 M' := kx.tr (g4.l hks)
    have kyy := kY_8 (ky.tr g5.k) 0
    obtain ⟨s1, s2, s3, s4, s5, s6, s7, s8, s9, s10⟩ := g3
    have hpe := s1.2.2.1
    have z03 : M' 0 3 = ks := by rw [kxx 0 3 rfl (by omega)]; exact eks
    have z02 : M' 0 2 = kr := by rw [kxx 0 2 rfl (by omega)]; exact h02
    rw [show m_LawReader_readInto_6 ks 0 pzN pzN pzN M2 = some (some (pzI 1), M') from g1, bI_some, if_neg (show ¬ (1 : Int) = 0 by omega), z03, z02, show ((ks : Nat) : Int).toNat = ks from rfl, show ((kr : Nat) : Int).toNat = kr from rfl, grd_pos (by omega), bM_eq, grd_pos (by omega), bM_eq, wr_idx (i := 3) (j := 2) (by decide), wr_same, show ((ks : Nat) : Int).toNat = ks from rfl, grd_pos hcl]
    obtain ⟨M6, hM6⟩ : ∃ M6, M6 = pz_wr (pz_wr M' 0 2 (ks : Int)) 0 3 (kr : Int) := ⟨_, rfl⟩
    rw [← hM6]
    have m6o : ∀ c i, c ≠ 0 ∨ (i ≠ 2 ∧ i ≠ 3) → M6 c i = M' c i := by
      intro c i z
      rw [hM6]
      unfold pz_wr
      rw [if_neg (by omega), if_neg (by omega)]
    have m602 : M6 0 2 = ks := by rw [hM6, wr_idx (by decide), wr_same]
    have m603 : M6 0 3 = kr := by rw [hM6, wr_same]
    rw [g2, m_Mod_law_71_eq, bM_eq, if_neg (show ¬ (1 : Int) = 0 by omega), bM_eq, wr_idx (i := 8) (j := 16) (by decide), s6]
    obtain ⟨N5, hN5⟩ : ∃ N5, N5 = pz_wr (pz_wr N' 100 8 0) 100 17 (r' : Int) := ⟨_, rfl⟩
    rw [← hN5]
    have n5o : ∀ c i, ¬ (c = 100 ∧ i = 17) → N5 c i = pz_wr N' 100 8 0 c i := by
      intro c i z
      rw [hN5]
      show (if c = 100 ∧ i = 17 then _ else _) = _
      rw [if_neg z]
    have n517 : N5 100 17 = (r' : Int) := by rw [hN5, wr_same]
    have n5c : ∀ c i, c ≠ 100 → N5 c i = N' c i := fun c i z => by rw [n5o c i (by omega), wr_cell z]
    have n514 : N5 100 14 = (cy' : Int) := by rw [n5o 100 14 (by omega), wr_idx (by decide)]; exact s7
    have n516 : N5 100 16 = (r' : Int) := by rw [n5o 100 16 (by omega), wr_idx (by decide)]; exact s6
    obtain ⟨N6, u1, u2, u3⟩ := Mod_law95 (u := pzI (y : Int)) (v := pzI 1) (cy := cy') (by omega) cy' 0 N5 (by omega) n514 (fun i hi => by omega)
    have u1' : m_Mod_law_95 (pzI (y : Int)) (pzI 1) 0 N5 = m_Mod_law_123 (pzI (y : Int)) (pzI 1) 0 N6 := u1
    obtain ⟨N7, v1, v2, v3⟩ := Mod_law123 (u := pzI (y : Int)) (v := pzI 1) g3' r' 0 N6 (by omega) (by rw [u3 100 16 (by decide)]; exact n516) (fun c i _ _ hi => by omega)
    have v1' : m_Mod_law_123 (pzI (y : Int)) (pzI 1) 0 N6 = some (some (pzI (r' : Int)), N7) := v1
    rw [u1', v1', m6o ks 3 (by omega), s4]
    have y7 : ∀ c i, (c < 114 ∨ 118 < c) → ¬ (c = 100 ∧ i = 17) → N7 c i = pz_wr N' 100 8 0 c i := fun c i z1 z2 => by rw [v3 c i (by omega), u3 c i (by omega), n5o c i z2]
    have y7' : ∀ c i, cY c i = true → (c < 114 ∨ 118 < c) → ¬ (c = 100 ∧ i = 17) → N7 c i = pz_wr N 100 8 0 c i := fun c i q z1 z2 => by rw [y7 c i z1 z2]; exact kyy c i q
    have n7r : ∀ c q, 110 ≤ c → c ≤ 113 → q < r' → N7 (c + 5) q = N' c q := fun c q c1 c2 hq => by rw [v2 c q c1 c2 hq, u3 c q (by omega), n5c c q (by omega)]
    have n7s : ∀ i, i < cy' → N7 114 i = N' 108 i := fun i hi => by rw [v3 114 i (by omega), u2 i hi, n5c 108 i (by decide)]
    have x7 : ∀ c i, cX c i = true → ¬ (ks ≤ c ∧ c ≤ ks + 7) → (c ≠ 0 ∨ (i ≠ 2 ∧ i ≠ 3)) → M6 c i = M1 c i := fun c i z1 z2 z3 => by rw [m6o c i z3]; exact kxx c i z1 z2
    have g : ∀ c i, (c = 30 ∨ (1 ≤ c ∧ c ≤ 12) ∨ (49 ≤ c ∧ c ≤ 53) ∨ (59 ≤ c ∧ c ≤ 63)) → M6 c i = M1 c i := fun c i z => x7 c i (cX_row (by omega)) (by omega) (by omega)
    refine ⟨r', M6, N7, rfl, rfl, ?_, ⟨kc, n0, ?_, rl_ter_keep ht1 (fun i => g _ i (by omega)) (fun i => g _ i (by omega)) (fun i => g _ i (by omega)) (fun i => g _ i (by omega)) (fun i => y7' 101 i (cY_row (by omega)) (by omega) (by omega)), ?_⟩, ?_, ⟨ks, r', ?_⟩, ?_⟩
    · unfold rl_tape at hT1 ⊢
      rw [x7 29 1 rfl (by omega) (by omega), y7' 100 8 rfl (by omega) (by omega)]
      refine ⟨hT1.1, hT1.2.1, hT1.2.2.1, fun i hi => ?_⟩
      rw [g 30 i (by omega), y7' 107 i (cY_row (by omega)) (by omega) (by omega)]
      exact hT1.2.2.2 i hi
    · exact rl_cases_of hc1 (x7 0 0 rfl (by omega) (by omega)) (x7 0 1 rfl (by omega) (by omega)) (g 49 4 (by omega)) (fun c i a b => g c i (by omega)) (y7' 100 6 rfl (by omega) (by omega)) (fun c i a b => y7' c i (cY_row (by omega)) (by omega) (by omega))
    · intro q hq
      have e : M6 (49 + 1) = M1 (49 + 1) := funext fun i => g 50 i (by omega)
      rw [g (49 + 4) q (by omega), e]
      exact hl1 q hq
    · exact rl_kept_of hk1 (x7 0 13 rfl (by omega) (by omega)) (fun c i a b => g c i (by omega)) (y7' 100 48 rfl (by omega) (by omega)) (y7' 100 49 rfl (by omega) (by omega)) (fun i => y7' 103 i (cY_row (by omega)) (by omega) (by omega))
    · have c6 : M6 ks 6 = (cx' : Int) := by rw [m6o ks 6 (by omega)]; exact s5
      refine ⟨hks, m602, by rw [m603]; omega, by rw [m6o ks 3 (by omega)]; exact s4, by rw [v3 100 17 (by omega), u3 100 17 (by decide)]; exact n517, g3', by rw [c6]; omega, by rw [c6]; omega, fun q hq => ?_⟩
      obtain ⟨kd, cv, ct, mf, mh, mt, a1, a2, a3, a4, a5, a6, a7, a8, b1, b2, b3, b4, b5⟩ := s10 q hq
      refine ⟨kd, cv, ct, mf, mh, mt, a1, by rw [m6o _ _ (by omega)]; exact a2, by rw [n7r 110 q (by omega) (by omega) hq]; exact a3, by rw [m6o _ _ (by omega)]; exact a4, by rw [m6o _ _ (by omega)]; exact a5, by rw [n7r 111 q (by omega) (by omega) hq]; exact a6, by rw [n7r 112 q (by omega) (by omega) hq]; exact a7, by rw [n7r 113 q (by omega) (by omega) hq]; exact a8, b1, b2, by omega, fun z => ?_, ?_⟩
      · exact seg_of (b4 z) (by omega) c6 (by omega) (fun i => m6o _ _ (by omega)) (fun i => m6o _ _ (by omega)) (fun i hi => n7s i (by omega))
      · exact seg_of b5 (by omega) c6 (by omega) (fun i => m6o _ _ (by omega)) (fun i => m6o _ _ (by omega)) (fun i hi => n7s i (by omega))
    · unfold pathOK at hp1 ⊢
      rw [x7 42 2 rfl (by omega) (by omega), x7 42 3 rfl (by omega) (by omega)]
      exact hp1
