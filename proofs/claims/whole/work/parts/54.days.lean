/-! ===== days, and days that are tried ===== -/
theorem goOn_end {k kc n kr nr : Nat} {D C : Int} {M N : pz_M} (h : dsE k kc n kr nr D C M N) (hd : ¬ M k 5 < 9999) (x : Int) : ∀ (j i : Nat), i + j = 100 → m_Desk_goOn_2 k x i M = some (none, M) := by
  obtain ⟨g0, g1, g2, g3, g4, g5, g6⟩ := h
  intro j
  induction j with
  | zero =>
    intro i hi
    rw [m_Desk_goOn_2_eq _ _ _ _ (cl_9 g0)]
    by_cases e : (i : Int) < x
    · rw [if_pos e, if_neg (show ¬ (i : Int) < 100 by omega)]
    · rw [if_neg e]
  | succ j ih =>
    intro i hi
    rw [m_Desk_goOn_2_eq _ _ _ _ (cl_9 g0)]
    by_cases e : (i : Int) < x
    · rw [if_pos e, if_pos (show (i : Int) < 100 by omega), show (M 0 2).toNat = kr by rw [g5.2.1]; rfl, show (M 0 0).toNat = kc by rw [g1.2.1]; rfl, m_Terrace_dayGoesBy_eq _ _ _ _ (cl_9 g0) (lw_cls g5.1).1 (cl_1 g1.1), if_neg hd, bV_some, ia_eq (by omega) (by omega)]
      exact ih (i + 1) (by omega)
    · rw [if_neg e]
theorem goOn_L {k kc n kr nr : Nat} {D C : Int} (x : Int) (hx : x ≤ 100) : ∀ (j i : Nat) (M N : pz_M), i + j = 100 → dsE k kc n kr nr D C M N → ∃ M' N', m_Desk_goOn_2 k x i M = some (none, M') ∧ m_Mod_daysGo_12 x i N = some (none, N') ∧ dsE k kc n kr nr D C M' N' ∧ gX k kr M M' ∧ gY N N' := by
  intro j
  induction j with
  | zero =>
    intro i M N hi h
    rw [m_Desk_goOn_2_eq _ _ _ _ (cl_9 h.1), if_neg (show ¬ (i : Int) < x by omega), m_Mod_daysGo_12_eq, if_neg (show ¬ (i : Int) < x by omega)]
    exact ⟨M, N, rfl, rfl, h, gX.rf _ _ _, gY.rf _⟩
  | succ j ih =>
    intro i M N hi h
    by_cases e : (i : Int) < x
    · by_cases hd : M k 5 < 9999
      · obtain ⟨M1, N1, a1, a2, a3, a4, a5⟩ := day_ok h hd
        have hd' : N 101 81 < 9999 := by rw [← h.2.2.2.1.2.2.1]; exact hd
        rw [m_Desk_goOn_2_eq _ _ _ _ (cl_9 h.1), if_pos e, if_pos (show (i : Int) < 100 by omega), show (M 0 2).toNat = kr by rw [h.2.2.2.2.2.1.2.1]; rfl, show (M 0 0).toNat = kc by rw [h.2.1.2.1]; rfl, a1, bV_some, ia_eq (x := (i : Int)) (by omega) (by omega), m_Mod_daysGo_12_eq, if_pos e, if_pos hd', a2, bV_some, ia_eq (x := (i : Int)) (by omega) (by omega)]
        obtain ⟨M', N', b1, b2, b3, b4, b5⟩ := ih (i + 1) M1 N1 (by omega) a3
        exact ⟨M', N', b1, b2, b3, a4.tr b4, a5.tr b5⟩
      · have hd' : ¬ N 101 81 < 9999 := by rw [← h.2.2.2.1.2.2.1]; exact hd
        rw [goOn_end h hd x (j + 1) i hi, m_Mod_daysGo_12_eq, if_pos e, if_neg hd']
        exact ⟨M, N, rfl, rfl, h, gX.rf _ _ _, gY.rf _⟩
    · rw [m_Desk_goOn_2_eq _ _ _ _ (cl_9 h.1), if_neg e, m_Mod_daysGo_12_eq, if_neg e]
      exact ⟨M, N, rfl, rfl, h, gX.rf _ _ _, gY.rf _⟩
theorem gX.kXn49 {kr : Nat} {M M' : pz_M} (h : gX 49 kr M M') (hr : kr = 13 ∨ kr = 21) : kXn M M' := by
  refine ⟨fun c i q z => ?_, h.2⟩
  unfold cX at q
  simp only [Bool.or_eq_true, Bool.and_eq_true, decide_eq_true_eq] at q
  exact h.1 c i (by omega) (by omega) (by omega) (by omega)
theorem gX.kX54 {kr : Nat} {M M' : pz_M} (h : gX 54 kr M M') (hr : kr = 13 ∨ kr = 21) : kX M M' := by
  intro c i q
  unfold cX at q
  simp only [Bool.or_eq_true, Bool.and_eq_true, decide_eq_true_eq] at q
  exact h.1 c i (by omega) (by omega) (by omega) (by omega)
theorem gY.kYn {N N' : pz_M} (h : gY N N') : kYn N N' := by
  intro c i q z
  unfold cY at q
  simp only [Bool.or_eq_true, Bool.and_eq_true, decide_eq_true_eq] at q
  exact h c i (by omega) (by omega) (by omega) (by omega)
theorem dct_0 {M N : pz_M} {k n : Nat} (hn : n ≤ 24) (ht : rl_ter M N k 101 n) (hl : rl_load M k n) (h38 : N 100 38 = 0) (h39 : N 100 39 = 0) : dct M N k (M (k + 4) 10) (sumI (M (k + 3)) 9) := by
  have h1 := hl 10 (by omega)
  have h2 := cntI_le (M (k + 1)) ((10 : Nat) : Int) n
  have hs := sumI_rg (f := M (k + 3)) (B := 9999) 9 (fun c hc => ⟨(ht.2.1 c hc).2.1, Int.le_trans (ht.2.1 c hc).2.2 ht.2.2.2.2.1⟩)
  exact Or.inr ⟨by omega, by omega, by omega, by omega, by omega, by omega⟩
theorem ag_days {M N : pz_M} (h : rl M N) (x : Int) : agree (m_Desk_days x M) (m_Mod_days x N) := by
  have h' := h
  obtain ⟨ht, ⟨kc, n, hc, hs, hl⟩, hk, ⟨kr, nr, hr⟩, hpa⟩ := h'
  have hn : n ≤ 24 := hc.2.2.2.2.2.1
  rw [m_Desk_days_eq, m_Mod_days_eq, Desk_areDays, bI_some, b01_ite, Mod_in, bI_some, b01_ite]
  by_cases hx : 1 ≤ x ∧ x ≤ 100
  · rw [if_pos hx, if_pos hx, m_Desk_goOn_eq _ _ _ rfl, m_Mod_daysGo_eq, bM_eq, bM_eq]
    have y0 : gY N (pz_wr (pz_wr N 100 38 0) 100 39 0) := fun c i z1 _ _ z2 => by unfold pz_wr; rw [if_neg (by omega), if_neg (by omega)]
    have e101 : ∀ i, pz_wr (pz_wr N 100 38 0) 100 39 0 101 i = N 101 i := fun i => by rw [wr_cell (by decide), wr_cell (by decide)]
    have ht1 : rl_ter M (pz_wr (pz_wr N 100 38 0) 100 39 0) 49 101 n := rl_ter_keep hs (fun _ => rfl) (fun _ => rfl) (fun _ => rfl) (fun _ => rfl) e101
    have hE : dsE 49 kc n kr nr (M 53 10) (sumI (M 52) 9) M (pz_wr (pz_wr N 100 38 0) 100 39 0) := ⟨Or.inl rfl, cases_g (k := 49) (Or.inl rfl) hr.1 hc (gX.rf _ _ _) y0, hc.2.2.2.1, ht1, hl, law_g (k := 49) (Or.inl rfl) hr (gX.rf _ _ _) y0, dct_0 hn ht1 hl (by rw [wr_idx (by decide), wr_same]) wr_same⟩
    obtain ⟨M1, N1, a1, a2, a3, a4, a5⟩ := goOn_L x hx.2 100 0 _ _ (by omega) hE
    have a1' : m_Desk_goOn_2 49 x 0 M = some (none, M1) := a1
    have a2' : m_Mod_daysGo_12 x 0 (pz_wr (pz_wr N 100 38 0) 100 39 0) = some (none, N1) := a2
    have hD := a3.2.2.2.2.2.2
    have h1 := hl 10 (by omega)
    have h2 := cntI_le (M (49 + 1)) ((10 : Nat) : Int) n
    have h3 := a3.2.2.2.2.1 10 (by omega)
    have h4 := cntI_le (M1 (49 + 1)) ((10 : Nat) : Int) n
    have e53 : M 53 10 = cntI (M (49 + 1)) ((10 : Nat) : Int) n := h1
    have e53' : M1 53 10 = cntI (M1 (49 + 1)) ((10 : Nat) : Int) n := h3
    have hD' : M1 53 10 = M 53 10 + N1 100 38 := by
      rcases hD with z | z
      · omega
      · exact z.1
    rw [a1', bV_some, a2', bV_some, isb_eq (by omega) (by omega)]
    refine ⟨M1 53 10 - M 53 10, M1, N1, rfl, by rw [show M1 53 10 - M 53 10 = N1 100 38 by omega], rl_now h (a4.kXn49 hr.1) (y0.tr a5).kYn (fun n2 hn2 _ => ?_)⟩
    have e2 : n2 = n := by have := hc.2.2.2.2.1; rw [hn2] at this; omega
    subst e2
    exact ⟨a3.2.2.2.1, a3.2.2.2.2.1⟩
  · rw [if_neg hx, if_neg hx]
    exact agree_same h _ rfl rfl
/-- both have the day copied for a try -/
def tryS (M N : pz_M) (kc n kr nr : Nat) (D : Int) (M1 N1 : pz_M) : Prop := dsE 54 kc n kr nr D (sumI (M 52) 9) M1 N1 ∧ kX M M1 ∧ (∀ c i, ¬ (c = 102 ∧ i < 83) → ¬ (c = 100 ∧ (i = 38 ∨ i = 39)) → c ≠ 119 → c ≠ 120 → ¬ (c = 101 ∧ i < 83) → N1 c i = N c i) ∧ (∀ i, i < 83 → N1 102 i = N 101 i)
theorem tryS_go {M N M1 N1 M2 N2 : pz_M} {kc n kr nr : Nat} {D : Int} (h : tryS M N kc n kr nr D M1 N1) (x : dsE 54 kc n kr nr D (sumI (M 52) 9) M2 N2) (g1 : gX 54 kr M1 M2) (g2 : gY N1 N2) : tryS M N kc n kr nr D M2 N2 := by
  obtain ⟨a, b, c, d⟩ := h
  refine ⟨x, b.tr (g1.kX54 a.2.2.2.2.2.1.1), fun c' i z1 z2 z3 z4 z5 => ?_, fun i hi => ?_⟩
  · rw [g2 c' i z5 z3 z4 z2]; exact c c' i z1 z2 z3 z4 z5
  · rw [g2 102 i (by omega) (by omega) (by omega) (by omega)]; exact d i hi
/-- the reference puts it back -/
theorem tryS_back {M N M1 N1 : pz_M} {kc n kr nr : Nat} {D : Int} (h : tryS M N kc n kr nr D M1 N1) : ∃ N', m_Mod_copies 102 101 N1 = some (none, N') ∧ kY N N' := by
  obtain ⟨a, b, c, d⟩ := h
  obtain ⟨N', e1, e2, e3⟩ := Mod_copies (N := N1) (k0 := 102) (k1 := 101) rfl rfl (by decide) rfl rfl
  refine ⟨N', e1, fun c' i q => ?_⟩
  by_cases z : c' = 101 ∧ i < 83
  · obtain ⟨z1, z2⟩ := z
    subst z1
    rw [e2 i z2, d i z2]
  · rw [e3 c' i z]
    unfold cY at q
    simp only [Bool.or_eq_true, Bool.and_eq_true, decide_eq_true_eq] at q
    exact c c' i (by omega) (by omega) (by omega) (by omega) z
theorem tryS_in {M N : pz_M} (h : rl M N) : ∃ (kc n kr nr : Nat) (M1 N1 : pz_M), n ≤ 24 ∧ M 49 4 = n ∧ N 100 6 = n ∧ 0 ≤ M 53 10 ∧ M 53 10 ≤ 24 ∧ m_Terrace_copy 54 49 M = some (none, M1) ∧ m_Mod_copies 101 102 N = some (none, N1) ∧ tryS M N kc n kr nr (-1) M1 N1 ∧ tryS M N kc n kr nr (M 53 10) M1 (pz_wr (pz_wr N1 100 38 0) 100 39 0) := by
  obtain ⟨ht, ⟨kc, n, hc, hs, hl⟩, hk, ⟨kr, nr, hr⟩, hpa⟩ := h
  have hn : n ≤ 24 := hc.2.2.2.2.2.1
  obtain ⟨M1, a1, a2, a3, a4, a5, a6, a7, a8, a9⟩ := Ter_copy (M := M) (k0 := 54) (k1 := 49) (n1 := n) rfl rfl (by decide) hc.2.2.2.1 hn (fun c hc => pl_rg (hs.1 c hc).1)
  obtain ⟨N1, b1, b2, b3⟩ := Mod_copies (N := N) (k0 := 101) (k1 := 102) rfl rfl (by decide) rfl rfl
  have x : kX M M1 := fun c i q => by
    unfold cX at q
    simp only [Bool.or_eq_true, Bool.and_eq_true, decide_eq_true_eq] at q
    exact a9 c i (by omega)
  have main : ∀ (D : Int) (N2 : pz_M), (∀ c i, ¬ (c = 100 ∧ (i = 38 ∨ i = 39)) → N2 c i = N1 c i) → (rl_ter M1 N2 54 101 n → dct M1 N2 54 D (sumI (M 52) 9)) → tryS M N kc n kr nr D M1 N2 := by
    intro D N2 hN hd
    have y : kY N N2 := fun c i q => by
      unfold cY at q
      simp only [Bool.or_eq_true, Bool.and_eq_true, decide_eq_true_eq] at q
      rw [hN c i (by omega), b3 c i (by omega)]
    have ht1 : rl_ter M1 N2 54 101 n := by
      obtain ⟨p1, p2, p3, p4, p5, p6, p7, p8⟩ := hs
      have e101 : ∀ i, N2 101 i = N 101 i := fun i => by rw [hN 101 i (by omega), b3 101 i (by omega)]
      refine ⟨fun c hc => ?_, fun p hp => ?_, ?_⟩
      · rw [a2 c hc, a3 c hc, e101, e101, e101]; exact p1 c hc
      · rw [a4 p hp, a6, e101]; exact p2 p hp
      · rw [a6, a7, e101, e101]; exact ⟨p3, p4, p5, p6, p7, p8⟩
    refine ⟨⟨Or.inr rfl, rl_cases_keep hc x.to1 y.to1, a5, ht1, a8, rl_law_keep hr x.to1 y.to1, hd ht1⟩, x, fun c i z1 z2 z3 z4 z5 => ?_, fun i hi => ?_⟩
    · rw [hN c i z2, b3 c i z1]
    · rw [hN 102 i (by omega), b2 i hi]
  have e1 : M1 (54 + 4) 10 = M 53 10 := by
    rw [a8 10 (by omega), cntI_cg (g := M 50) n (fun c hc => a2 c hc)]
    exact (hl 10 (by omega)).symm
  have e2 : sumI (M1 (54 + 3)) 9 = sumI (M 52) 9 := sumI_congr 9 (fun c hc => a4 c hc)
  have h1 : M 53 10 = cntI (M 50) ((10 : Nat) : Int) n := hl 10 (by omega)
  have h2 := cntI_le (M 50) ((10 : Nat) : Int) n
  refine ⟨kc, n, kr, nr, M1, N1, hn, hc.2.2.2.1, hc.2.2.2.2.1, by omega, by omega, a1, b1, main (-1) N1 (fun _ _ _ => rfl) (fun _ => Or.inl rfl), main (M 53 10) (pz_wr (pz_wr N1 100 38 0) 100 39 0) (fun c i z => by unfold pz_wr; rw [if_neg (by omega), if_neg (by omega)]) (fun ht1 => ?_)⟩
  have hd := dct_0 hn ht1 a8 (by rw [wr_idx (by decide), wr_same]) wr_same
  rw [e1, e2] at hd
  exact hd
