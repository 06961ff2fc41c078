/-! ===== a day: a bird's turn ===== -/
theorem dst_q {k kc n kr nr q q' : Nat} {D C : Int} {M N : pz_M} (h : dst k kc n kr nr q D C M N) (hq : q ≤ q') : dst k kc n kr nr q' D C M N := by
  obtain ⟨g0, g1, g2, g3, g4, g5, g6, g7, g8⟩ := h
  refine ⟨g0, g1, g2, g3, fun p hp => ?_, g5, g6, g7, g8⟩
  have := g4 p hp
  refine ⟨this.1, this.2.1, Int.le_trans this.2.2 ?_⟩
  by_cases e : p < q
  · rw [if_pos e, if_pos (by omega)]; omega
  · rw [if_neg e]; split <;> omega
theorem draw_ok {k kc n kr nr q : Nat} {D C : Int} {M N : pz_M} (h : dst k kc n kr nr q D C M N) : ∃ r M' N', m_Terrace_draw k M = some (some (pzI r), M') ∧ m_Mod_draws N = some (some (pzI r), N') ∧ dst k kc n kr nr q D C M' N' ∧ gX k kr M M' ∧ gY N N' ∧ (∀ c i, c ≠ k → M' c i = M c i) := by
  have h' := h
  obtain ⟨g0, g1, g2, g3, g4, g5, g6, g7, g8⟩ := h'
  obtain ⟨d1, d2, d3, d4, d5, d6⟩ := g5
  have hn : n ≤ 24 := g1.2.2.2.2.2.1
  have e1 : ian (25173 * M k 6 + 13849) 65535 = (25173 * M k 6 + 13849) % 65536 := by
    obtain ⟨X, hX⟩ : ∃ X : Nat, 25173 * M k 6 + 13849 = (X : Int) := ⟨(25173 * M k 6 + 13849).toNat, by omega⟩
    rw [hX]
    have := ian_nat (a := X) (b := 65535) (by omega)
    rw [show ((65535 : Nat) : Int) = 65535 from rfl] at this
    rw [this, show X &&& 65535 = X % 65536 from Nat.and_two_pow_sub_one_eq_mod X 16]
    omega
  have e2 : irm (25173 * M k 6 + 13849) 65536 = (25173 * M k 6 + 13849) % 65536 := irm_nn (by omega) (by omega) (by omega) (by omega)
  rw [m_Terrace_draw_eq _ _ (cl_9 g0), bM_eq, wr_same, m_Mod_draws_eq, bM_eq, wr_same, ← d4, imu_eq (x := 25173) (by omega) (by omega), ia_eq (x := 25173 * M k 6) (by omega) (by omega), e1, e2]
  have x : gX k kr M (pz_wr M k 6 ((25173 * M k 6 + 13849) % 65536)) := ⟨fun c i z _ _ _ => wr_cell (by omega), wr_idx (by decide)⟩
  have y : gY N (pz_wr N 101 82 ((25173 * M k 6 + 13849) % 65536)) := fun c i z _ _ _ => by unfold pz_wr; rw [if_neg (by omega)]
  have ex : ∀ c i, c ≠ k → pz_wr M k 6 ((25173 * M k 6 + 13849) % 65536) c i = M c i := fun c i z => wr_cell z
  have r1 : ∀ c, c ≠ k → pz_wr M k 6 ((25173 * M k 6 + 13849) % 65536) c = M c := fun c z => funext fun i => wr_cell z
  have ey : ∀ i, i ≠ 82 → pz_wr N 101 82 ((25173 * M k 6 + 13849) % 65536) 101 i = N 101 i := fun i z => wr_idx z
  refine ⟨_, _, _, rfl, rfl, dst_mk h x y ?_ ?_ ?_ ?_ ?_, x, y, ex⟩
  · intro c hc
    rw [ex _ _ (by omega), ex _ _ (by omega), ey c (by omega), ey (24 + c) (by omega), ey (48 + c) (by omega)]
    exact g3 c hc
  · intro p hp
    rw [ex _ _ (by omega), ey (72 + p) (by omega), wr_idx (show 5 ≠ 6 by decide)]
    exact g4 p hp
  · unfold dnu
    rw [wr_same, wr_same, wr_idx (show 5 ≠ 6 by decide), ey 81 (by decide)]
    exact ⟨d1, d2, d3, rfl, by omega, by omega⟩
  · intro i hi
    rw [ex _ _ (by omega), r1 (k + 1) (by omega)]
    exact g6 i hi
  · unfold dct at g8 ⊢
    rw [ex _ _ (by omega), r1 (k + 3) (by omega), wr_cell (show (100 : Nat) ≠ 101 by decide), wr_cell (show (100 : Nat) ≠ 101 by decide)]
    exact g8
theorem gab_L {k kc n kr nr q p : Nat} {D C : Int} (hp8 : p < 9) : ∀ (j c : Nat) (M N : pz_M), c + j = n → dst k kc n kr nr q D C M N → ∃ M' N', m_Terrace_giveAllBack_2 k p c M = some (none, M') ∧ m_Mod_moults_2 p c N = some (none, N') ∧ dst k kc n kr nr q D C M' N' ∧ gX k kr M M' ∧ gY N N' := by
  intro j
  induction j with
  | zero =>
    intro c M N hc h
    rw [m_Terrace_giveAllBack_2_eq _ _ _ _ (cl_9 h.1), h.2.2.1, if_neg (show ¬ (c : Int) < (n : Int) by omega), m_Mod_moults_2_eq, h.2.1.2.2.2.2.1, if_neg (show ¬ (c : Int) < (n : Int) by omega)]
    exact ⟨M, N, rfl, rfl, h, gX.rf _ _ _, gY.rf _⟩
  | succ j ih =>
    intro c M N hc h
    have hk := h.1
    have hr := h.2.2.2.2.2.2.2.1.1
    have hn : n ≤ 24 := h.2.1.2.2.2.2.2.1
    have c4 := h.2.1.2.2.2.2.1
    have hp := h.2.2.2.1 c (by omega)
    rw [m_Terrace_giveAllBack_2_eq _ _ _ _ (cl_9 h.1), h.2.2.1, if_pos (show (c : Int) < (n : Int) by omega), grd_pos (by omega), m_Mod_moults_2_eq, c4, if_pos (show (c : Int) < (n : Int) by omega), Mod_hasIt c4 hn, bI_some, b01_ite, show ((c : Nat) : Int).toNat = c from rfl, ia_eq (x := (c : Int)) (by omega) (by omega)]
    by_cases e : M (k + 1) c = p
    · have e0 := (pl_at hp.1 (q := (p : Int)) (by omega) (by omega)).mp e
      rw [if_pos e, if_pos ⟨by omega, by omega, e0.1, e0.2⟩, Ter_give (n := n) (cl_9 hk) hn (fun c' hc' => pl_rg (h.2.2.2.1 c' hc').1) h.2.2.2.2.2.2.1 (by omega) (by omega) (by omega) (by omega), bV_some, ia_eq (x := 0) (by omega) (by omega), Int.zero_add, grd_pos (by omega), bM_eq, ia_eq (x := 24) (by omega) (by omega), grd_pos (by omega), bM_eq, show ((c : Nat) : Int).toNat = c from rfl, show (24 + (c : Int)).toNat = 24 + c by omega]
      obtain ⟨g1, g2, g3⟩ := dst_move h (c := c) (by omega) (b := 9) (N' := pz_wr (pz_wr N 101 c 0) 101 (24 + c) (-1)) (fun a i z1 z2 => by unfold pz_wr; rw [if_neg (by omega), if_neg (by omega)]) (Or.inl ⟨rfl, by rw [wr_idx (by omega), wr_same]⟩) (by omega) (by rw [if_neg (by omega), wr_cell (by decide), wr_cell (by decide)])
      obtain ⟨M', N', k1, k2, k3, k4, k5⟩ := ih (c + 1) _ _ (by omega) g1
      exact ⟨M', N', k1, k2, k3, g2.tr k4, g3.tr k5⟩
    · rw [if_neg e, if_neg (fun z => e ((pl_at hp.1 (q := (p : Int)) (by omega) (by omega)).mpr z.2.2))]
      exact ih (c + 1) M N (by omega) h
theorem fc_L {k kc n kr nr q p : Nat} {D C d : Int} (hp8 : p < 9) : ∀ (j c : Nat) (M N : pz_M) (best most : Int) (w u : pz_V), c + j = n → dst k kc n kr nr q D C M N → fb M kr k p d → (best = -1 ∨ (0 ≤ best ∧ best < n ∧ M (k + 1) best.toNat = p)) → ∃ b M' N', m_Terrace_firstCried_9 k p kr kc best most c w M = some (some (pzI b), M') ∧ m_Mod_likesMost_8 p d best most c u N = some (some (pzI b), N') ∧ tX kr M M' ∧ tY N N' ∧ fb M' kr k p d ∧ (b = -1 ∨ (0 ≤ b ∧ b < n ∧ M (k + 1) b.toNat = p)) := by
  intro j
  induction j with
  | zero =>
    intro c M N best most w u hc h hf hb
    rw [m_Terrace_firstCried_9_eq _ _ _ _ _ _ _ _ _ (cl_9 h.1) (lw_cls h.2.2.2.2.2.2.2.1.1).1 (cl_1 h.2.1.1), h.2.2.1, if_neg (show ¬ (c : Int) < (n : Int) by omega), m_Mod_likesMost_8_eq, h.2.1.2.2.2.2.1, if_neg (show ¬ (c : Int) < (n : Int) by omega)]
    exact ⟨best, M, N, rfl, rfl, tX.rf _ _, tY.rf _, hf, hb⟩
  | succ j ih =>
    intro c M N best most w u hc h hf hb
    have hk := h.1
    have hr := h.2.2.2.2.2.2.2.1.1
    have hn : n ≤ 24 := h.2.1.2.2.2.2.2.1
    have c4 := h.2.1.2.2.2.2.1
    have hp := h.2.2.2.1 c (by omega)
    rw [m_Terrace_firstCried_9_eq _ _ _ _ _ _ _ _ _ (cl_9 hk) (lw_cls hr).1 (cl_1 h.2.1.1), h.2.2.1, if_pos (show (c : Int) < (n : Int) by omega), grd_pos (by omega), m_Mod_likesMost_8_eq, c4, if_pos (show (c : Int) < (n : Int) by omega), Mod_hasIt c4 hn, bI_some, b01_ite, show ((c : Nat) : Int).toNat = c from rfl, ia_eq (x := (c : Int)) (by omega) (by omega)]
    by_cases e : M (k + 1) c = p
    · have e0 := (pl_at hp.1 (q := (p : Int)) (by omega) (by omega)).mp e
      obtain ⟨M2, N2, b1, b2, b3, b4, b5, b6⟩ := tc_ok h hf hp8 (c := c) (by omega)
      have h2 := dst_f h b5 b6
      obtain ⟨r, M3, N3, c1, c2, c3, c4'⟩ := worth_ok (kd := 1) (hi := 9999) (no := 1) (by omega) (by omega) h2.2.2.2.2.2.2.2.1 b3
      have c1' : m_Law_worth kr 1 9999 1 M2 = some (some (pzI r), M3) := c1
      have c2' : m_Mod_byLaw 107 9999 1 N2 = some (some (pzI r), N3) := c2
      have h3 := dst_f h2 c3.f c4'.f
      have hf3 := fb_e hk hr b4 c3
      have row : ∀ i, M3 (k + 1) i = M (k + 1) i := fun i => by rw [c3 _ _ (by omega) (by omega), b5 _ _ (by omega) (by omega) (by omega)]
      rw [if_pos e, if_pos ⟨by omega, by omega, e0.1, e0.2⟩, b1, bV_some, c1', bI_some, b2, bV_some, c2', bI_some]
      by_cases hm : most < r
      · rw [if_pos hm, if_pos hm]
        obtain ⟨b, M', N', d1, d2, d3, d4, d5, d6⟩ := ih (c + 1) M3 N3 c r (pzI r) (pzI r) (by omega) h3 hf3 (Or.inr ⟨by omega, by omega, by rw [row]; exact e⟩)
        refine ⟨b, M', N', d1, d2, (b5.tr c3.f).tr d3, (b6.tr c4'.f).tr d4, d5, ?_⟩
        rcases d6 with z | z
        · exact Or.inl z
        · rw [row] at z; exact Or.inr z
      · rw [if_neg hm, if_neg hm]
        obtain ⟨b, M', N', d1, d2, d3, d4, d5, d6⟩ := ih (c + 1) M3 N3 best most (pzI r) (pzI r) (by omega) h3 hf3 (by rw [row]; exact hb)
        refine ⟨b, M', N', d1, d2, (b5.tr c3.f).tr d3, (b6.tr c4'.f).tr d4, d5, ?_⟩
        rcases d6 with z | z
        · exact Or.inl z
        · rw [row] at z; exact Or.inr z
    · rw [if_neg e, if_neg (fun z => e ((pl_at hp.1 (q := (p : Int)) (by omega) (by omega)).mpr z.2.2))]
      exact ih (c + 1) M N best most w u (by omega) h hf hb
theorem sumI_wr {f : Nat → Int} {c : Nat} {v : Int} : ∀ n, sumI (fun i => if i = c then v else f i) n = sumI f n + if c < n then v - f c else 0 := by
  intro n
  induction n with
  | zero => rfl
  | succ n ih =>
    unfold sumI
    rw [ih]
    by_cases h : n = c
    · subst h
      rw [if_neg (show ¬ n < n by omega), if_pos (show n < n + 1 by omega), if_pos (rfl : n = n)]
      omega
    · rw [if_neg h]
      by_cases hc : c < n
      · rw [if_pos hc, if_pos (show c < n + 1 by omega)]
        omega
      · rw [if_neg hc, if_neg (show ¬ c < n + 1 by omega)]
        omega
theorem dst_cry {k kc n kr nr p : Nat} {D C : Int} {M N : pz_M} (h : dst k kc n kr nr p D C M N) (hp : p < 9) : dst k kc n kr nr (p + 1) D C (pz_wr M (k + 3) p (M (k + 3) p + 1)) (pz_wr (pz_wr N 101 (72 + p) (M (k + 3) p + 1)) 100 39 (ia (N 100 39) 1)) ∧ gX k kr M (pz_wr M (k + 3) p (M (k + 3) p + 1)) ∧ gY N (pz_wr (pz_wr N 101 (72 + p) (M (k + 3) p + 1)) 100 39 (ia (N 100 39) 1)) := by
  have h' := h
  obtain ⟨g0, g1, g2, g3, g4, g5, g6, g7, g8⟩ := h'
  have hn : n ≤ 24 := g1.2.2.2.2.2.1
  have x : gX k kr M (pz_wr M (k + 3) p (M (k + 3) p + 1)) := ⟨fun c i z _ _ _ => wr_cell (by omega), wr_cell (by omega)⟩
  have y : gY N (pz_wr (pz_wr N 101 (72 + p) (M (k + 3) p + 1)) 100 39 (ia (N 100 39) 1)) := fun c i z _ _ z2 => by unfold pz_wr; rw [if_neg (by omega), if_neg (by omega)]
  have ex : ∀ c, c ≠ k + 3 → pz_wr M (k + 3) p (M (k + 3) p + 1) c = M c := fun c z => funext fun i => wr_cell z
  have e3 : pz_wr M (k + 3) p (M (k + 3) p + 1) (k + 3) = fun i => if i = p then M (k + 3) p + 1 else M (k + 3) i := funext fun i => wr_at
  have ey : ∀ i, i ≠ 72 + p → pz_wr (pz_wr N 101 (72 + p) (M (k + 3) p + 1)) 100 39 (ia (N 100 39) 1) 101 i = N 101 i := fun i z => by rw [wr_cell (by decide), wr_idx z]
  refine ⟨dst_mk h x y ?_ ?_ ?_ ?_ ?_, x, y⟩
  · intro c hc
    rw [ex _ (by omega), ex _ (by omega), ey c (by omega), ey (24 + c) (by omega), ey (48 + c) (by omega)]
    exact g3 c hc
  · intro p' hp'
    have w := g4 p' hp'
    rw [e3, ex k (by omega)]
    show (if p' = p then M (k + 3) p + 1 else M (k + 3) p') = _ ∧ 0 ≤ (if p' = p then M (k + 3) p + 1 else M (k + 3) p') ∧ (if p' = p then M (k + 3) p + 1 else M (k + 3) p') ≤ _
    by_cases e : p' = p
    · subst e
      rw [if_neg (by omega)] at w
      rw [if_pos rfl, wr_cell (show (101 : Nat) ≠ 100 by decide), wr_same, if_pos (show p' < p' + 1 by omega)]
      omega
    · rw [if_neg e, ey (72 + p') (by omega)]
      refine ⟨w.1, w.2.1, Int.le_trans w.2.2 ?_⟩
      by_cases e2 : p' < p
      · rw [if_pos e2, if_pos (by omega)]; omega
      · rw [if_neg e2]; split <;> omega
  · unfold dnu at g5 ⊢
    rw [ex k (by omega), ey 81 (by omega), ey 82 (by omega)]
    exact g5
  · intro i hi
    rw [ex _ (by omega), ex _ (by omega)]
    exact g6 i hi
  · rcases g8 with g8 | g8
    · exact Or.inl g8
    · have hs := sumI_rg (f := M (k + 3)) (B := 9999) 9 (fun c hc => by
        have w := g4 c hc
        have u := g5.2.2.1
        refine ⟨w.2.1, Int.le_trans w.2.2 ?_⟩
        split <;> omega)
      have z1 := g8.2.1
      have z2 := g8.2.2
      refine Or.inr ⟨?_, ?_, g8.2.2⟩
      · rw [ex (k + 4) (by omega), wr_idx (show 38 ≠ 39 by decide), wr_cell (show (100 : Nat) ≠ 101 by decide)]
        exact g8.1
      · rw [e3, sumI_wr, if_pos hp, wr_same, ia_eq (by omega) (by omega)]
        omega
theorem Mod_isDone_ok {N : pz_M} {c : Nat} (hc : c < 24) : m_Mod_isDone c N = some (none, pz_wr (pz_wr (pz_wr N 101 c 2) 101 (24 + c) (-1)) 100 38 (ia (N 100 38) 1)) := by
  rw [m_Mod_isDone_eq, ia_eq (x := 0) (by omega) (by omega), Int.zero_add, grd_pos (by omega), bM_eq, ia_eq (x := 24) (by omega) (by omega), grd_pos (by omega), bM_eq, bM_eq, show ((c : Nat) : Int).toNat = c from rfl, show (24 + (c : Int)).toNat = 24 + c by omega, wr_cell (show (100 : Nat) ≠ 101 by decide), wr_cell (show (100 : Nat) ≠ 101 by decide)]
theorem done_ok {k kc n kr nr q c : Nat} {D C : Int} {M N : pz_M} (h : dst k kc n kr nr q D C M N) (hc : c < n) (ho : M (k + 1) c ≠ 10) : m_Terrace_give k c 10 M = some (none, gv M k c 10) ∧ m_Mod_isDone c N = some (none, pz_wr (pz_wr (pz_wr N 101 c 2) 101 (24 + c) (-1)) 100 38 (ia (N 100 38) 1)) ∧ dst k kc n kr nr q D C (gv M k c 10) (pz_wr (pz_wr (pz_wr N 101 c 2) 101 (24 + c) (-1)) 100 38 (ia (N 100 38) 1)) ∧ gX k kr M (gv M k c 10) ∧ gY N (pz_wr (pz_wr (pz_wr N 101 c 2) 101 (24 + c) (-1)) 100 38 (ia (N 100 38) 1)) := by
  have hn : n ≤ 24 := h.2.1.2.2.2.2.2.1
  obtain ⟨g1, g2, g3⟩ := dst_move h (c := c) hc (b := 10) (N' := pz_wr (pz_wr (pz_wr N 101 c 2) 101 (24 + c) (-1)) 100 38 (ia (N 100 38) 1)) (fun a i z1 z2 => by unfold pz_wr; rw [if_neg (by omega), if_neg (by omega), if_neg (by omega)]) (Or.inr (Or.inl ⟨rfl, by rw [wr_cell (by decide), wr_idx (by omega), wr_same]⟩)) ho (by rw [if_pos rfl, wr_same])
  exact ⟨Ter_give (n := n) (cl_9 h.1) hn (fun c' hc' => pl_rg (h.2.2.2.1 c' hc').1) h.2.2.2.2.2.2.1 (by omega) (by omega) (by omega) (by omega), Mod_isDone_ok (by omega), g1, g2, g3⟩
theorem turn_ok {k kc n kr nr p : Nat} {D C : Int} {M N : pz_M} (h : dst k kc n kr nr p D C M N) (hp : p < 8) : ∃ M' N', m_Terrace_turnOf k p kr kc M = some (none, M') ∧ m_Mod_cries p N = some (none, N') ∧ dst k kc n kr nr (p + 1) D C M' N' ∧ gX k kr M M' ∧ gY N N' := by
  have hk := h.1
  have hr := h.2.2.2.2.2.2.2.1.1
  have hn : n ≤ 24 := h.2.1.2.2.2.2.2.1
  obtain ⟨d, M1, N1, a1, a2, h1, x1, y1, _⟩ := draw_ok h
  obtain ⟨M2, b1, b2, b3⟩ := tp_ok (M := M1) (p := p) (d := d) hk hr (by omega)
  have fx2 : tX kr M1 M2 := fun c i z _ _ => b3 c i z
  have h2 := dst_f h1 fx2 (tY.rf N1)
  obtain ⟨M3, N3, c1, c2, c3, c4, c5, c6⟩ := nc_ok h2 b2 (by omega)
  have h3 := dst_f h2 c5 c6
  obtain ⟨r, M4, N4, d1, d2, d3, d4⟩ := moults_ok h3.2.2.2.2.2.2.2.1 c3
  have h4 := dst_f h3 d3.f d4.f
  have f4 := fb_e hk hr c4 d3
  have X4 : gX k kr M M4 := ((x1.tr (fx2.g hk hr)).tr (c5.g hk hr)).tr (d3.f.g hk hr)
  have Y4 : gY N N4 := (y1.tr c6.g).tr d4.f.g
  rw [m_Terrace_turnOf_eq _ _ _ _ _ (cl_9 hk) (lw_cls hr).1 (cl_1 h.2.1.1), a1, bI_some, b1, bV_some, c1, bV_some, d1, bI_some, m_Mod_cries_eq, a2, bI_some, c2, bV_some, d2, bI_some]
  by_cases hr0 : r = 0
  · rw [if_pos hr0, if_pos hr0, m_Terrace_firstCried_eq _ _ _ _ _ (cl_9 hk) (lw_cls hr).1 (cl_1 h.2.1.1), m_Mod_likesMost_eq]
    obtain ⟨b, M5, N5, e1, e2, e3, e4, e5, e6⟩ := fc_L (p := p) (by omega) n 0 M4 N4 (-1) 0 pzN pzN (by omega) h4 f4 (Or.inl rfl)
    have e1' : m_Terrace_firstCried_9 k p kr kc (-1) 0 0 pzN M4 = some (some (pzI b), M5) := e1
    have e2' : m_Mod_likesMost_8 p d (-1) 0 0 pzN N4 = some (some (pzI b), N5) := e2
    have h5 := dst_f h4 e3 e4
    rw [e1', bI_some, e2', bI_some]
    rcases e6 with hb | ⟨hb0, hb1, hb2⟩
    · rw [if_pos (show b < 0 by omega), if_pos hb]
      exact ⟨M5, N5, rfl, rfl, dst_q h5 (by omega), X4.tr (e3.g hk hr), Y4.tr e4.g⟩
    · rw [if_neg (show ¬ b < 0 by omega), if_neg (show ¬ b = -1 by omega)]
      obtain ⟨c, hc⟩ : ∃ c : Nat, b = (c : Int) := ⟨b.toNat, by omega⟩
      subst hc
      have hcn : c < n := by omega
      obtain ⟨M6, N6, i1, i2, i3, i4, i5, i6⟩ := tc_ok h5 e5 (by omega) hcn
      have h6 := dst_f h5 i5 i6
      obtain ⟨w, M7, N7, j1, j2, j3, j4⟩ := worth_ok (kd := 2) (hi := 10) (no := 10) (by omega) (by omega) h6.2.2.2.2.2.2.2.1 i3
      have j1' : m_Law_worth kr 2 10 10 M6 = some (some (pzI w), M7) := j1
      have j2' : m_Mod_byLaw 104 10 10 N6 = some (some (pzI w), N7) := j2
      have h7 := dst_f h6 j3.f j4.f
      have q7 := h7.2.2.2.2.1 p (by omega)
      rw [if_neg (by omega)] at q7
      have q7d := h7.2.2.2.2.2.1.2.2.1
      have X7 : gX k kr M M7 := ((X4.tr (e3.g hk hr)).tr (i5.g hk hr)).tr (j3.f.g hk hr)
      have Y7 : gY N N7 := ((Y4.tr e4.g).tr i6.g).tr j4.f.g
      obtain ⟨h8, x8, y8⟩ := dst_cry h7 (by omega)
      rw [i1, bV_some, j1', bI_some, grd_pos (by omega), Math_min, bI_some, grd_pos (by omega), bM_eq, i2, bV_some, j2', bI_some, ia_eq (x := 72) (by omega) (by omega), grd_pos (by omega), Mod_min, bI_some, grd_pos (by omega), bM_eq, bM_eq, show ((p : Nat) : Int).toNat = p from rfl, show (72 + (p : Int)).toNat = 72 + p by omega, ← q7.1, ia_eq (x := M7 (k + 3) p) (by omega) (by omega), show min 9999 (M7 (k + 3) p + 1) = M7 (k + 3) p + 1 by omega, wr_cell (show (100 : Nat) ≠ 101 by decide)]
      obtain ⟨d', M9, N9, k1, k2, h9, x9, y9, k3⟩ := draw_ok h8
      rw [k1, bI_some, k2, bI_some]
      by_cases hw : d' < w
      · have ho : M9 (k + 1) c ≠ 10 := by
          rw [k3 _ _ (by omega), wr_cell (by omega), j3 _ _ (by omega) (by omega), i5 _ _ (by omega) (by omega) (by omega), e3 _ _ (by omega) (by omega) (by omega)]
          have hb2' : M4 (k + 1) c = p := hb2
          omega
        obtain ⟨l1, l2, l3, l4, l5⟩ := done_ok h9 hcn ho
        rw [if_pos hw, if_pos hw, l1, bV_some, l2, bV_some]
        exact ⟨_, _, rfl, rfl, l3, ((X7.tr x8).tr x9).tr l4, ((Y7.tr y8).tr y9).tr l5⟩
      · rw [if_neg hw, if_neg hw]
        exact ⟨_, _, rfl, rfl, h9, (X7.tr x8).tr x9, (Y7.tr y8).tr y9⟩
  · rw [if_neg hr0, if_neg hr0, m_Terrace_giveAllBack_eq _ _ _ (cl_9 hk), m_Mod_moults_eq]
    obtain ⟨M5, N5, e1, e2, e3, e4, e5⟩ := gab_L (p := p) (by omega) n 0 M4 N4 (by omega) h4
    have e1' : m_Terrace_giveAllBack_2 k p 0 M4 = some (none, M5) := e1
    have e2' : m_Mod_moults_2 p 0 N4 = some (none, N5) := e2
    rw [e1', bV_some, e2', bV_some]
    exact ⟨M5, N5, rfl, rfl, dst_q e3 (by omega), X4.tr e4, Y4.tr e5⟩
theorem ph2_L {k kc n kr nr : Nat} {D C : Int} : ∀ (j p : Nat) (M N : pz_M), p + j = 8 → dst k kc n kr nr p D C M N → ∃ M' N', m_Terrace_dayGoesBy_52 k kr kc p M = m_Terrace_dayGoesBy_73 k kr kc 0 M' ∧ m_Mod_dayGoes_34 p N = m_Mod_dayGoes_53 0 N' ∧ dst k kc n kr nr 8 D C M' N' ∧ gX k kr M M' ∧ gY N N' := by
  intro j
  induction j with
  | zero =>
    intro p M N hp h
    have e : p = 8 := by omega
    subst e
    rw [m_Terrace_dayGoesBy_52_eq _ _ _ _ _ (cl_9 h.1) (lw_cls h.2.2.2.2.2.2.2.1.1).1 (cl_1 h.2.1.1), if_neg (show ¬ ((8 : Nat) : Int) < 8 by decide), m_Mod_dayGoes_34_eq, if_neg (show ¬ ((8 : Nat) : Int) < 8 by decide)]
    exact ⟨M, N, rfl, rfl, h, gX.rf _ _ _, gY.rf _⟩
  | succ j ih =>
    intro p M N hp h
    obtain ⟨M1, N1, a1, a2, a3, a4, a5⟩ := turn_ok h (by omega)
    rw [m_Terrace_dayGoesBy_52_eq _ _ _ _ _ (cl_9 h.1) (lw_cls h.2.2.2.2.2.2.2.1.1).1 (cl_1 h.2.1.1), if_pos (show (p : Int) < 8 by omega), m_Mod_dayGoes_34_eq, if_pos (show (p : Int) < 8 by omega), a1, bV_some, a2, bV_some, ia_eq (x := (p : Int)) (by omega) (by omega)]
    obtain ⟨M', N', k1, k2, k3, k4, k5⟩ := ih (p + 1) M1 N1 (by omega) a3
    exact ⟨M', N', k1, k2, k3, a4.tr k4, a5.tr k5⟩
