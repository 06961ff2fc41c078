/-! ===== a day: who takes what ===== -/
def gX (k kr : Nat) (M M' : pz_M) : Prop := (∀ c i, ¬ (k ≤ c ∧ c ≤ k + 4) → c ≠ kr + 6 → c ≠ kr + 7 → ¬ (c = kr ∧ i = 9) → M' c i = M c i) ∧ M' k 4 = M k 4
def gY (N N' : pz_M) : Prop := ∀ c i, ¬ (c = 101 ∧ i < 83) → c ≠ 119 → c ≠ 120 → ¬ (c = 100 ∧ (i = 38 ∨ i = 39)) → N' c i = N c i
theorem gX.rf (k kr : Nat) (M : pz_M) : gX k kr M M := ⟨fun _ _ _ _ _ _ => rfl, rfl⟩
theorem gY.rf (N : pz_M) : gY N N := fun _ _ _ _ _ _ => rfl
theorem gX.tr {k kr : Nat} {M M1 M2 : pz_M} (h : gX k kr M M1) (h2 : gX k kr M1 M2) : gX k kr M M2 := ⟨fun c i a b d e => (h2.1 c i a b d e).trans (h.1 c i a b d e), h2.2.trans h.2⟩
theorem gY.tr {N N1 N2 : pz_M} (h : gY N N1) (h2 : gY N1 N2) : gY N N2 := fun c i a b d e => (h2 c i a b d e).trans (h c i a b d e)
theorem tX.g {k kr : Nat} {M M' : pz_M} (h : tX kr M M') (hk : k = 49 ∨ k = 54) (hr : kr = 13 ∨ kr = 21) : gX k kr M M' := ⟨fun c i _ b d e => h c i b d e, h k 4 (by omega) (by omega) (by omega)⟩
theorem tY.g {N N' : pz_M} (h : tY N N') : gY N N' := fun c i _ b d _ => h c i b d
theorem cases_g {k kr kc n : Nat} {M N M' N' : pz_M} (hk : k = 49 ∨ k = 54) (hr : kr = 13 ∨ kr = 21) (h : rl_cases M N kc n) (x : gX k kr M M') (y : gY N N') : rl_cases M' N' kc n := by
  refine rl_cases_of h (x.1 0 0 (by omega) (by omega) (by omega) (by omega)) (x.1 0 1 (by omega) (by omega) (by omega) (by omega)) ?_ (fun c i a b => x.1 c i (by omega) (by omega) (by omega) (by omega)) (y 100 6 (by decide) (by decide) (by decide) (by decide)) (fun c i a b => y c i (by omega) (by omega) (by omega) (by omega))
  rcases hk with rfl | rfl
  · exact x.2
  · exact x.1 49 4 (by omega) (by omega) (by omega) (by omega)
theorem law_g {k kr n : Nat} {M N M' N' : pz_M} (hk : k = 49 ∨ k = 54) (h : rl_law M N kr n) (x : gX k kr M M') (y : gY N N') : rl_law M' N' kr n := by
  have hr := h.1
  exact rl_law_of h (x.1 0 2 (by omega) (by omega) (by omega) (by omega)) (x.1 0 3 (by omega) (by omega) (by omega) (by omega)) (fun k' hk' => ⟨x.1 k' 3 (by omega) (by omega) (by omega) (by omega), x.1 k' 6 (by omega) (by omega) (by omega) (by omega)⟩) (fun c i z => x.1 c i (by omega) (by omega) (by omega) (by omega)) (y 100 17 (by decide) (by decide) (by decide) (by decide)) (fun c i a b => y c i (by omega) (by omega) (by omega) (by omega))
theorem dst_mk {k kc n kr nr q q' : Nat} {D C : Int} {M N M' N' : pz_M} (h : dst k kc n kr nr q D C M N) (x : gX k kr M M') (y : gY N N') (h3 : dpl M' N' k n) (h4 : dcr M' N' k q') (h5 : dnu M' N' k) (h6 : rl_load M' k n) (h8 : dct M' N' k D C) : dst k kc n kr nr q' D C M' N' := by
  obtain ⟨g0, g1, g2, g3, g4, g5, g6, g7, g8⟩ := h
  exact ⟨g0, cases_g g0 g7.1 g1 x y, by rw [x.2]; exact g2, h3, h4, h5, h6, law_g g0 g7 x y, h8⟩
theorem dst_move {k kc n kr nr q : Nat} {D C : Int} {M N N' : pz_M} (h : dst k kc n kr nr q D C M N) {c : Nat} (hc : c < n) {b : Int} (hN : ∀ a i, ¬ (a = 101 ∧ (i = c ∨ i = 24 + c)) → ¬ (a = 100 ∧ i = 38) → N' a i = N a i) (hpl : rl_pl b (N' 101 c) (N' 101 (24 + c))) (ho : M (k + 1) c ≠ 10) (h38 : N' 100 38 = if b = 10 then ia (N 100 38) 1 else N 100 38) : dst k kc n kr nr q D C (gv M k c b) N' ∧ gX k kr M (gv M k c b) ∧ gY N N' := by
  have hn : n ≤ 24 := h.2.1.2.2.2.2.2.1
  have x : gX k kr M (gv M k c b) := ⟨fun a i z _ _ _ => by rw [gv_else (by omega) (by omega)], by rw [gv_else (by omega) (by omega)]⟩
  have y : gY N N' := fun a i z1 _ _ z2 => hN a i (by omega) (by omega)
  have h' := h
  obtain ⟨g0, g1, g2, g3, g4, g5, g6, g7, g8⟩ := h'
  have e2 : gv M k c b (k + 2) = M (k + 2) := gv_else (by omega) (by omega)
  have e3 : gv M k c b (k + 3) = M (k + 3) := gv_else (by omega) (by omega)
  have e0 : gv M k c b k = M k := gv_else (by omega) (by omega)
  refine ⟨dst_mk h x y ?_ ?_ ?_ (gv_load g6 hc) ?_, x, y⟩
  · intro c' hc'
    rw [e2, gv_row, hN 101 (48 + c') (by omega) (by omega)]
    refine ⟨?_, (g3 c' hc').2⟩
    show rl_pl (if c' = c then b else M (k + 1) c') _ _
    by_cases e : c' = c
    · subst e
      rw [if_pos (rfl : c' = c')]
      exact hpl
    · rw [if_neg e, hN 101 c' (by omega) (by omega), hN 101 (24 + c') (by omega) (by omega)]
      exact (g3 c' hc').1
  · intro p hp
    rw [e3, e0, hN 101 (72 + p) (by omega) (by omega)]
    exact g4 p hp
  · unfold dnu at g5 ⊢
    rw [e0, hN 101 81 (by omega) (by omega), hN 101 82 (by omega) (by omega)]
    exact g5
  · rcases g8 with g8 | g8
    · exact Or.inl g8
    · have l1 := g6 10 (by omega)
      have l2 := cntI_le (M (k + 1)) ((10 : Nat) : Int) n
      refine Or.inr ⟨?_, by rw [e3, hN 100 39 (by omega) (by omega)]; exact g8.2.1, g8.2.2⟩
      rw [gv_row4, if_pos (show 10 < 11 by decide), h38, if_neg (show ¬ ((10 : Nat) : Int) = M (k + 1) c from fun z => ho z.symm), g8.1]
      by_cases e : b = 10
      · rw [if_pos e, if_pos (show ((10 : Nat) : Int) = b from e.symm), ia_eq (by omega) (by omega)]; omega
      · rw [if_neg e, if_neg (show ¬ ((10 : Nat) : Int) = b from fun z => e z.symm)]; omega
theorem tk_L {k kc n kr nr q c : Nat} {D C : Int} (hc : c < n) : ∀ (j p : Nat) (M N : pz_M) (xb rb most : Int) (w u : pz_V), p + j = 9 → dst k kc n kr nr q D C M N → ((xb = 9 ∧ rb = -1) ∨ (0 ≤ xb ∧ xb ≤ 8 ∧ rb = xb)) → ∃ b M' N', m_Terrace_takerOf_10 k c kr kc xb most p w M = some (some (pzI b), M') ∧ tX kr M M' ∧ tY N N' ∧ ((b = 9 ∧ m_Mod_isTaken_7 c rb most p u N = some (none, N')) ∨ (0 ≤ b ∧ b ≤ 8 ∧ m_Mod_isTaken_7 c rb most p u N = some (none, pz_wr (pz_wr N' 101 c 1) 101 (24 + c) b))) := by
  intro j
  induction j with
  | zero =>
    intro p M N xb rb most w u hp h hb
    have hn : n ≤ 24 := h.2.1.2.2.2.2.2.1
    rw [m_Terrace_takerOf_10_eq _ _ _ _ _ _ _ _ _ (cl_9 h.1) (lw_cls h.2.2.2.2.2.2.2.1.1).1 (cl_1 h.2.1.1), if_neg (show ¬ (p : Int) < 9 by omega), m_Mod_isTaken_7_eq, if_neg (show ¬ (p : Int) < 9 by omega)]
    refine ⟨xb, M, N, rfl, tX.rf _ _, tY.rf _, ?_⟩
    rcases hb with ⟨e1, e2⟩ | ⟨e1, e2, e3⟩
    · exact Or.inl ⟨e1, by rw [if_pos e2]⟩
    · refine Or.inr ⟨e1, e2, ?_⟩
      rw [if_neg (show ¬ rb = -1 by omega), Mod_goesTo (by omega) (by omega), bV_some, e3]
      rfl
  | succ j ih =>
    intro p M N xb rb most w u hp h hb
    have hk := h.1
    have hr := h.2.2.2.2.2.2.2.1.1
    have hn : n ≤ 24 := h.2.1.2.2.2.2.2.1
    have c4 := h.2.1.2.2.2.2.1
    have hcnt := dst_cnt h (p := p) (by omega)
    rw [m_Terrace_takerOf_10_eq _ _ _ _ _ _ _ _ _ (cl_9 hk) (lw_cls hr).1 (cl_1 h.2.1.1), if_pos (show (p : Int) < 9 by omega), m_Mod_isTaken_7_eq, if_pos (show (p : Int) < 9 by omega), Ter_hasEye (cl_9 hk) (by omega) (by omega), bI_some, b01_ite, show ((p : Nat) : Int).toNat = p from rfl, Mod_casesOf c4 hn, bI_some, Mod_bits (mskN_31 _ (by omega)), popN_msk _ hn, bI_some, ← hcnt, ia_eq (x := (p : Int)) (by omega) (by omega)]
    by_cases he : M (k + 4) p < 12
    · rw [if_pos he, if_pos he]
      obtain ⟨M1, a1, a2, a3⟩ := tp_ok (M := M) (p := p) (d := 0) hk hr (by omega)
      have x1 : tX kr M M1 := fun c i z _ _ => a3 c i z
      have h1 := dst_f h x1 (tY.rf N)
      obtain ⟨M2, N2, b1, b2, b3, b4, b5, b6⟩ := tc_ok h1 a2 (by omega) hc
      have h2 := dst_f h1 b5 b6
      obtain ⟨r, M3, N3, c1, c2, c3, c4'⟩ := worth_ok (kd := 0) (hi := 9999) (no := 0) (by omega) (by omega) h2.2.2.2.2.2.2.2.1 b3
      have c1' : m_Law_worth kr 0 9999 0 M2 = some (some (pzI r), M3) := c1
      have c2' : m_Mod_byLaw 101 9999 0 N2 = some (some (pzI r), N3) := c2
      have h3 := dst_f h2 c3.f c4'.f
      rw [a1, bV_some, b1, bV_some, c1', bI_some, b2, bV_some, c2', bI_some]
      by_cases hm : most < r
      · rw [if_pos hm, if_pos hm]
        obtain ⟨b, M', N', d1, d2, d3, d4⟩ := ih (p + 1) M3 N3 p p r (pzI r) (pzI r) (by omega) h3 (Or.inr ⟨by omega, by omega, rfl⟩)
        exact ⟨b, M', N', d1, ((x1.tr b5).tr c3.f).tr d2, (b6.tr c4'.f).tr d3, d4⟩
      · rw [if_neg hm, if_neg hm]
        obtain ⟨b, M', N', d1, d2, d3, d4⟩ := ih (p + 1) M3 N3 xb rb most (pzI r) (pzI r) (by omega) h3 hb
        exact ⟨b, M', N', d1, ((x1.tr b5).tr c3.f).tr d2, (b6.tr c4'.f).tr d3, d4⟩
    · rw [if_neg he, if_neg he]
      exact ih (p + 1) M N xb rb most w u (by omega) h hb
theorem ph1_L {k kc n kr nr q : Nat} {D C : Int} : ∀ (j c : Nat) (M N : pz_M), c + j = n → dst k kc n kr nr q D C M N → ∃ M' N', m_Terrace_dayGoesBy_13 k kr kc c M = m_Terrace_dayGoesBy_52 k kr kc 0 M' ∧ m_Mod_dayGoes_2 c N = m_Mod_dayGoes_34 0 N' ∧ dst k kc n kr nr q D C M' N' ∧ gX k kr M M' ∧ gY N N' := by
  intro j
  induction j with
  | zero =>
    intro c M N hc h
    rw [m_Terrace_dayGoesBy_13_eq _ _ _ _ _ (cl_9 h.1) (lw_cls h.2.2.2.2.2.2.2.1.1).1 (cl_1 h.2.1.1), h.2.2.1, if_neg (show ¬ (c : Int) < (n : Int) by omega), m_Mod_dayGoes_2_eq, h.2.1.2.2.2.2.1, if_neg (show ¬ (c : Int) < (n : Int) by omega)]
    exact ⟨M, N, rfl, rfl, h, gX.rf _ _ _, gY.rf _⟩
  | succ j ih =>
    intro c M N hc h
    have hk := h.1
    have hr := h.2.2.2.2.2.2.2.1.1
    have hn : n ≤ 24 := h.2.1.2.2.2.2.2.1
    have hp := h.2.2.2.1 c (by omega)
    rw [m_Terrace_dayGoesBy_13_eq _ _ _ _ _ (cl_9 hk) (lw_cls hr).1 (cl_1 h.2.1.1), h.2.2.1, if_pos (show (c : Int) < (n : Int) by omega), grd_pos (by omega), m_Mod_dayGoes_2_eq, h.2.1.2.2.2.2.1, if_pos (show (c : Int) < (n : Int) by omega), ia_eq (x := 0) (by omega) (by omega), Int.zero_add, grd_pos (by omega), show ((c : Nat) : Int).toNat = c from rfl, ia_eq (x := (c : Int)) (by omega) (by omega)]
    by_cases e : M (k + 1) c = 9
    · have e0 : N 101 c = 0 := (pl_9 hp.1).mp e
      obtain ⟨b, M1, N1, a1, a2, a3, a4⟩ := tk_L (c := c) (by omega) 9 0 M N 9 (-1) 0 pzN pzN (by omega) h (Or.inl ⟨rfl, rfl⟩)
      have h1 := dst_f h a2 a3
      have a1' : m_Terrace_takerOf_10 k c kr kc 9 0 0 pzN M = some (some (pzI b), M1) := a1
      have e1 : M1 (k + 1) c = 9 := by rw [a2 (k + 1) c (by omega) (by omega) (by omega)]; exact e
      have b9 : 0 ≤ b ∧ b ≤ 9 := by omega
      rw [if_pos e, if_pos e0, m_Terrace_takerOf_eq _ _ _ _ _ (cl_9 hk) (lw_cls hr).1 (cl_1 h.2.1.1), a1', bI_some, Ter_give (n := n) (cl_9 hk) hn (fun c' hc' => pl_rg (h1.2.2.2.1 c' hc').1) h1.2.2.2.2.2.2.1 (by omega) (by omega) (by omega) (by omega), bV_some, m_Mod_isTaken_eq, show ((c : Nat) : Int).toNat = c from rfl]
      rcases a4 with ⟨f1, f2⟩ | ⟨f1, f2, f3⟩
      · have f2' : m_Mod_isTaken_7 c (-1) 0 0 pzN N = some (none, N1) := f2
        obtain ⟨g1, g2, g3⟩ := dst_move h1 (c := c) (by omega) (b := b) (N' := N1) (fun _ _ _ _ => rfl) (Or.inl ⟨f1, by rw [a3 101 c (by decide) (by decide)]; exact e0⟩) (by omega) (by rw [if_neg (by omega)])
        rw [f2', bV_some]
        obtain ⟨M', N', k1, k2, k3, k4, k5⟩ := ih (c + 1) _ _ (by omega) g1
        exact ⟨M', N', k1, k2, k3, ((a2.g hk hr).tr g2).tr k4, (a3.g.tr g3).tr k5⟩
      · have f3' : m_Mod_isTaken_7 c (-1) 0 0 pzN N = some (none, pz_wr (pz_wr N1 101 c 1) 101 (24 + c) b) := f3
        obtain ⟨g1, g2, g3⟩ := dst_move h1 (c := c) (by omega) (b := b) (N' := pz_wr (pz_wr N1 101 c 1) 101 (24 + c) b) (fun a i z1 z2 => by unfold pz_wr; rw [if_neg (by omega), if_neg (by omega)]) (Or.inr (Or.inr ⟨f1, f2, by rw [wr_idx (by omega), wr_same], wr_same⟩)) (by omega) (by rw [if_neg (by omega), wr_cell (by decide), wr_cell (by decide)])
        rw [f3', bV_some]
        obtain ⟨M', N', k1, k2, k3, k4, k5⟩ := ih (c + 1) _ _ (by omega) g1
        exact ⟨M', N', k1, k2, k3, ((a2.g hk hr).tr g2).tr k4, (a3.g.tr g3).tr k5⟩
    · rw [if_neg e, if_neg (fun z => e ((pl_9 hp.1).mpr z))]
      exact ih (c + 1) M N (by omega) h
