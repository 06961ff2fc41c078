/-! ===== a day: the hen, and how long ===== -/
def dn (p a : Int) : Int := if p = 8 ∧ 7 ≤ a then 10 else p
theorem cntI_cg {f g : Nat → Int} {q : Int} (n : Nat) (h : ∀ c, c < n → f c = g c) : cntI f q n = cntI g q n := by
  rw [cntI_cntB, cntI_cntB]
  exact cntB_congr n (fun c hc => by rw [h c hc])
theorem henA_L {k kc n kr nr q : Nat} {D C : Int} {M N : pz_M} (h : dst k kc n kr nr q D C M N) : ∀ (j c : Nat) (N1 : pz_M), c + j = n → (∀ a i, ¬ (a = 101 ∧ i < 48) → ¬ (a = 100 ∧ i = 38) → N1 a i = N a i) → (∀ c', c' < n → c' < c → rl_pl (dn (M (k + 1) c') (M (k + 2) c')) (N1 101 c') (N1 101 (24 + c'))) → (∀ c', c' < n → c ≤ c' → N1 101 c' = N 101 c' ∧ N1 101 (24 + c') = N 101 (24 + c')) → (D = -1 ∨ (0 ≤ D ∧ D ≤ 24 ∧ cntI (N1 101) 2 n = D + N1 100 38)) → ∃ N', m_Mod_dayGoes_53 c N1 = m_Mod_dayGoes_98 0 N' ∧ (∀ a i, ¬ (a = 101 ∧ i < 48) → ¬ (a = 100 ∧ i = 38) → N' a i = N a i) ∧ (∀ c', c' < n → rl_pl (dn (M (k + 1) c') (M (k + 2) c')) (N' 101 c') (N' 101 (24 + c'))) ∧ (D = -1 ∨ (0 ≤ D ∧ D ≤ 24 ∧ cntI (N' 101) 2 n = D + N' 100 38)) := by
  obtain ⟨g0, g1, g2, g3, g4, g5, g6, g7, g8⟩ := h
  have hn : n ≤ 24 := g1.2.2.2.2.2.1
  have c4 := g1.2.2.2.2.1
  intro j
  induction j with
  | zero =>
    intro c N1 hc i1 i2 i3 i4
    rw [m_Mod_dayGoes_53_eq, i1 100 6 (by omega) (by omega), c4, if_neg (show ¬ (c : Int) < (n : Int) by omega)]
    exact ⟨N1, rfl, i1, fun c' hc' => i2 c' hc' (by omega), i4⟩
  | succ j ih =>
    intro c N1 hc i1 i2 i3 i4
    have c4' : N1 100 6 = n := by rw [i1 100 6 (by omega) (by omega)]; exact c4
    have hp := g3 c (by omega)
    have i3c := i3 c (by omega) (Nat.le_refl c)
    have hb := cntI_le (N1 101) 2 n
    rw [m_Mod_dayGoes_53_eq, c4', if_pos (show (c : Int) < (n : Int) by omega), Mod_hasIt c4' hn, bI_some, b01_ite, show ((c : Nat) : Int).toNat = c from rfl, i3c.1, i3c.2, ia_eq (x := (c : Int)) (by omega) (by omega)]
    by_cases e : M (k + 1) c = 8
    · have e0 := (pl_at hp.1 (q := 8) (by omega) (by omega)).mp e
      rw [if_pos ⟨by omega, by omega, e0.1, e0.2⟩, ia_eq (x := 48) (by omega) (by omega), grd_pos (by omega), show (48 + (c : Int)).toNat = 48 + c by omega, i1 101 (48 + c) (by omega) (by omega), ← hp.2.1]
      by_cases e7 : M (k + 2) c < 7
      · rw [if_pos e7]
        refine ih (c + 1) N1 (by omega) i1 (fun c' h1 h2 => ?_) (fun c' h1 h2 => i3 c' h1 (by omega)) i4
        by_cases ec : c' = c
        · subst ec
          unfold dn
          rw [if_neg (by omega), i3c.1, i3c.2]
          exact hp.1
        · exact i2 c' h1 (by omega)
      · rw [if_neg e7, Mod_isDone_ok (by omega), bV_some]
        refine ih (c + 1) _ (by omega) (fun a i z1 z2 => ?_) (fun c' h1 h2 => ?_) (fun c' h1 h2 => ?_) ?_
        · have : pz_wr (pz_wr (pz_wr N1 101 c 2) 101 (24 + c) (-1)) 100 38 (ia (N1 100 38) 1) a i = N1 a i := by unfold pz_wr; rw [if_neg (by omega), if_neg (by omega), if_neg (by omega)]
          rw [this]; exact i1 a i z1 z2
        · by_cases ec : c' = c
          · subst ec
            unfold dn
            rw [if_pos (by omega), wr_cell (by decide), wr_idx (by omega), wr_same]
            exact Or.inr (Or.inl ⟨rfl, rfl⟩)
          · rw [wr_cell (by decide), wr_idx (by omega), wr_idx (by omega), wr_cell (by decide), wr_idx (by omega), wr_idx (by omega)]
            exact i2 c' h1 (by omega)
        · rw [wr_cell (by decide), wr_idx (by omega), wr_idx (by omega), wr_cell (by decide), wr_idx (by omega), wr_idx (by omega)]
          exact i3 c' h1 (by omega)
        · rcases i4 with i4 | ⟨i5, i6, i4⟩
          · exact Or.inl i4
          · refine Or.inr ⟨i5, i6, ?_⟩
            rw [wr_same, cntI_cg (g := fun i => if i = c then 2 else N1 101 i) n (fun i hi => by rw [wr_cell (by decide), wr_idx (by omega), wr_at]), cntI_wr, if_pos (show c < n by omega), i4, i3c.1, e0.1, if_pos rfl, if_neg (by decide), ia_eq (by omega) (by omega)]
            omega
    · rw [if_neg (fun z => e ((pl_at hp.1 (q := 8) (by omega) (by omega)).mpr z.2.2))]
      refine ih (c + 1) N1 (by omega) i1 (fun c' h1 h2 => ?_) (fun c' h1 h2 => i3 c' h1 (by omega)) i4
      by_cases ec : c' = c
      · subst ec
        unfold dn
        rw [if_neg (by omega), i3c.1, i3c.2]
        exact hp.1
      · exact i2 c' h1 (by omega)
/-- what holds of both as ages go up: those below c are through -/
def hR (k kr n : Nat) (D : Int) (M N : pz_M) (c : Nat) (M1 N1 : pz_M) : Prop := gX k kr M M1 ∧ gY N N1 ∧ M1 k = M k ∧ M1 (k + 3) = M (k + 3) ∧ (∀ i, 72 ≤ i → N1 101 i = N 101 i) ∧ N1 100 39 = N 100 39 ∧ rl_load M1 k n ∧ (∀ c', c' < n → rl_pl (if c' < c then M1 (k + 1) c' else dn (M1 (k + 1) c') (M1 (k + 2) c')) (N1 101 c') (N1 101 (24 + c'))) ∧ (∀ c', c' < n → M1 (k + 2) c' = N1 101 (48 + c') ∧ 0 ≤ M1 (k + 2) c' ∧ M1 (k + 2) c' ≤ 9999) ∧ (D = -1 ∨ (0 ≤ D ∧ D ≤ 24 ∧ cntI (N1 101) 2 n = D + N1 100 38)) ∧ (∀ c', c' < n → 0 ≤ M1 (k + 1) c' ∧ M1 (k + 1) c' ≤ 10)
theorem henB_L {k kc n kr : Nat} {D : Int} {M N : pz_M} (hk : k = 49 ∨ k = 54) (hr : kr = 13 ∨ kr = 21) (hkc : kc = 1 ∨ kc = 7) (hn : n ≤ 24) (g2 : M k 4 = n) (c4 : N 100 6 = n) : ∀ (j c : Nat) (M1 N1 : pz_M), c + j = n → hR k kr n D M N c M1 N1 → ∃ M' N', m_Terrace_dayGoesBy_73 k kr kc c M1 = some (none, pz_wr M' k 5 (ia (M' k 5) 1)) ∧ m_Mod_dayGoes_98 c N1 = some (none, pz_wr N' 101 81 (ia (N' 101 81) 1)) ∧ hR k kr n D M N n M' N' := by
  have a1 := cl_9 hk
  have a2 := (lw_cls hr).1
  have a3 := cl_1 hkc
  intro j
  induction j with
  | zero =>
    intro c M1 N1 hc h
    have e : c = n := by omega
    subst e
    rw [m_Terrace_dayGoesBy_73_eq _ _ _ _ _ a1 a2 a3, h.2.2.1, g2, if_neg (show ¬ (c : Int) < (c : Int) by omega), bM_eq, m_Mod_dayGoes_98_eq, h.2.1 100 6 (by omega) (by omega) (by omega) (by omega), c4, if_neg (show ¬ (c : Int) < (c : Int) by omega), bM_eq]
    exact ⟨M1, N1, by rw [h.2.2.1], rfl, h⟩
  | succ j ih =>
    intro c M1 N1 hc h
    have h' := h
    obtain ⟨x, y, b0, b3, y72, y39, bl, bp, ba, bc, br⟩ := h'
    have c4' : N1 100 6 = n := by rw [y 100 6 (by omega) (by omega) (by omega) (by omega)]; exact c4
    have pc := bp c (by omega)
    rw [if_neg (show ¬ c < c by omega)] at pc
    have ac := ba c (by omega)
    have next : ∀ M2 N2 : pz_M, hR k kr n D M N (c + 1) M2 N2 → ∃ M' N', m_Terrace_dayGoesBy_73 k kr kc ((c : Int) + 1) M2 = some (none, pz_wr M' k 5 (ia (M' k 5) 1)) ∧ m_Mod_dayGoes_98 ((c : Int) + 1) N2 = some (none, pz_wr N' 101 81 (ia (N' 101 81) 1)) ∧ hR k kr n D M N n M' N' := fun M2 N2 q => ih (c + 1) M2 N2 (by omega) q
    rw [m_Terrace_dayGoesBy_73_eq _ _ _ _ _ a1 a2 a3, b0, g2, if_pos (show (c : Int) < (n : Int) by omega), grd_pos (by omega), m_Mod_dayGoes_98_eq, c4', if_pos (show (c : Int) < (n : Int) by omega), Mod_isLeft c4' hn, bI_some, b01_ite, show ((c : Nat) : Int).toNat = c from rfl, ia_eq (x := (c : Int)) (by omega) (by omega)]
    by_cases e : M1 (k + 1) c = 8 ∧ 7 ≤ M1 (k + 2) c
    · have e10 : dn (M1 (k + 1) c) (M1 (k + 2) c) = 10 := by unfold dn; rw [if_pos e]
      rw [e10] at pc
      have n2 : N1 101 c = 2 := (pl_10 pc).mp rfl
      rw [if_pos e.1, grd_pos (by omega), if_neg (show ¬ M1 (k + 2) c < 7 by omega), Ter_give (n := n) a1 hn br bl (by omega) (by omega) (by omega) (by omega), bV_some, m_Terrace_dayGoesBy_110_eq _ _ _ _ _ a1 a2 a3, grd_pos (by omega), show ((c : Nat) : Int).toNat = c from rfl]
      have r1 : gv M1 k c 10 (k + 1) c = 10 := by rw [gv_row]; show (if c = c then (10 : Int) else _) = 10; rw [if_pos rfl]
      have r2 : gv M1 k c 10 (k + 2) = M1 (k + 2) := gv_else (by omega) (by omega)
      rw [if_pos r1, ia_eq (x := (c : Int)) (by omega) (by omega), if_neg (fun z => z.2.2 n2)]
      refine next _ _ ⟨x.tr ⟨fun a i z _ _ _ => by rw [gv_else (by omega) (by omega)], by rw [gv_else (by omega) (by omega)]⟩, y, by rw [gv_else (by omega) (by omega)]; exact b0, by rw [gv_else (by omega) (by omega)]; exact b3, y72, y39, gv_load bl (by omega), fun c' hc' => ?_, by rw [r2]; exact ba, bc, fun c' hc' => ?_⟩
      · by_cases ec : c' = c
        · subst ec
          rw [if_pos (by omega), r1]
          exact pc
        · have w := bp c' hc'
          have r3 : gv M1 k c 10 (k + 1) c' = M1 (k + 1) c' := by rw [gv_row]; show (if c' = c then (10 : Int) else _) = _; rw [if_neg ec]
          rw [r2, r3]
          by_cases el : c' < c
          · rw [if_pos el] at w; rw [if_pos (by omega)]; exact w
          · rw [if_neg el] at w; rw [if_neg (by omega)]; exact w
      · by_cases ec : c' = c
        · subst ec; rw [r1]; omega
        · have r3 : gv M1 k c 10 (k + 1) c' = M1 (k + 1) c' := by rw [gv_row]; show (if c' = c then (10 : Int) else _) = _; rw [if_neg ec]
          rw [r3]; exact br c' hc'
    · have edn : dn (M1 (k + 1) c) (M1 (k + 2) c) = M1 (k + 1) c := by unfold dn; rw [if_neg e]
      rw [edn] at pc
      have desk : (if M1 (k + 1) c = 8 then grd (0 ≤ (c : Int) ∧ (c : Int) < 24) (if M1 (k + 2) c < 7 then m_Terrace_dayGoesBy_110 k kr kc c M1 else bV (m_Terrace_give k c 10 M1) fun M1 => m_Terrace_dayGoesBy_110 k kr kc c M1) else m_Terrace_dayGoesBy_110 k kr kc c M1) = m_Terrace_dayGoesBy_110 k kr kc c M1 := by
        by_cases e8 : M1 (k + 1) c = 8
        · rw [if_pos e8, grd_pos (by omega), if_pos (by omega)]
        · rw [if_neg e8]
      rw [desk, m_Terrace_dayGoesBy_110_eq _ _ _ _ _ a1 a2 a3, grd_pos (by omega), show ((c : Nat) : Int).toNat = c from rfl, ia_eq (x := (c : Int)) (by omega) (by omega)]
      by_cases e10 : M1 (k + 1) c = 10
      · have n2 : N1 101 c = 2 := (pl_10 pc).mp e10
        rw [if_pos e10, if_neg (fun z => z.2.2 n2)]
        refine next _ _ ⟨x, y, b0, b3, y72, y39, bl, fun c' hc' => ?_, ba, bc, br⟩
        have w := bp c' hc'
        by_cases ec : c' = c
        · subst ec; rw [if_pos (by omega)]; exact pc
        · by_cases el : c' < c
          · rw [if_pos el] at w; rw [if_pos (by omega)]; exact w
          · rw [if_neg el] at w; rw [if_neg (by omega)]; exact w
      · have n2 : N1 101 c ≠ 2 := fun z => e10 ((pl_10 pc).mpr z)
        rw [if_neg e10, grd_pos (by omega), Math_min, bI_some, grd_pos (by omega), bM_eq, if_pos ⟨by omega, by omega, n2⟩, ia_eq (x := 48) (by omega) (by omega), grd_pos (by omega), Mod_min, bI_some, grd_pos (by omega), bM_eq, show (48 + (c : Int)).toNat = 48 + c by omega, ← ac.1, ia_eq (x := M1 (k + 2) c) (by omega) (by omega)]
        have ey : ∀ i, i ≠ 48 + c → pz_wr N1 101 (48 + c) (min 9999 (M1 (k + 2) c + 1)) 101 i = N1 101 i := fun i z => wr_idx z
        have r1 : pz_wr M1 (k + 2) c (min 9999 (M1 (k + 2) c + 1)) (k + 1) = M1 (k + 1) := funext fun i => wr_cell (by omega)
        refine next _ _ ⟨x.tr ⟨fun a i z _ _ _ => wr_cell (by omega), wr_cell (by omega)⟩, y.tr (fun a i z _ _ _ => by unfold pz_wr; rw [if_neg (by omega)]), by rw [← b0]; exact funext fun i => wr_cell (by omega), by rw [← b3]; exact funext fun i => wr_cell (by omega), fun i hi => by rw [ey i (by omega)]; exact y72 i hi, by rw [wr_cell (by decide)]; exact y39, fun i hi => by rw [wr_cell (by omega), r1]; exact bl i hi, fun c' hc' => ?_, fun c' hc' => ?_, by rw [wr_cell (show (100 : Nat) ≠ 101 by decide), cntI_cg (g := N1 101) n (fun i hi => ey i (by omega))]; exact bc, by rw [r1]; exact br⟩
        · have w := bp c' hc'
          rw [r1, ey c' (by omega), ey (24 + c') (by omega)]
          by_cases ec : c' = c
          · subst ec; rw [if_pos (by omega)]; exact pc
          · by_cases el : c' < c
            · rw [if_pos el] at w; rw [if_pos (by omega)]; exact w
            · rw [if_neg el] at w; rw [if_neg (by omega), wr_idx ec]; exact w
        · by_cases ec : c' = c
          · subst ec; rw [wr_same, wr_same]; omega
          · rw [wr_idx ec, ey (48 + c') (by omega)]; exact ba c' hc'
/-- what holds of both between two days -/
def dsE (k kc n kr nr : Nat) (D C : Int) (M N : pz_M) : Prop := (k = 49 ∨ k = 54) ∧ rl_cases M N kc n ∧ M k 4 = n ∧ rl_ter M N k 101 n ∧ rl_load M k n ∧ rl_law M N kr nr ∧ dct M N k D C
theorem day_ok {k kc n kr nr : Nat} {D C : Int} {M N : pz_M} (h : dsE k kc n kr nr D C M N) (hd : M k 5 < 9999) : ∃ M' N', m_Terrace_dayGoesBy k kr kc M = some (none, M') ∧ m_Mod_dayGoes N = some (none, N') ∧ dsE k kc n kr nr D C M' N' ∧ gX k kr M M' ∧ gY N N' := by
  obtain ⟨g0, g1, g2, g3, g4, g5, g6⟩ := h
  obtain ⟨t1, t2, t3, t4, t5, t6, t7, t8⟩ := g3
  have h0 : dst k kc n kr nr 0 D C M N := ⟨g0, g1, g2, t1, fun p hp => ⟨(t2 p hp).1, (t2 p hp).2.1, by rw [if_neg (by omega)]; have := (t2 p hp).2.2; omega⟩, ⟨t3, t4, hd, t6, t7, t8⟩, g4, g5, g6⟩
  have hn : n ≤ 24 := g1.2.2.2.2.2.1
  have hr := g5.1
  rw [m_Terrace_dayGoesBy_eq _ _ _ _ (cl_9 g0) (lw_cls hr).1 (cl_1 g1.1), if_pos hd, m_Mod_dayGoes_eq]
  obtain ⟨M1, N1, a1, a2, a3, a4, a5⟩ := ph1_L n 0 M N (by omega) h0
  have a1' : m_Terrace_dayGoesBy_13 k kr kc 0 M = m_Terrace_dayGoesBy_52 k kr kc 0 M1 := a1
  have a2' : m_Mod_dayGoes_2 0 N = m_Mod_dayGoes_34 0 N1 := a2
  obtain ⟨M2, N2, b1, b2, b3, b4, b5⟩ := ph2_L 8 0 M1 N1 (by omega) a3
  have b1' : m_Terrace_dayGoesBy_52 k kr kc 0 M1 = m_Terrace_dayGoesBy_73 k kr kc 0 M2 := b1
  have b2' : m_Mod_dayGoes_34 0 N1 = m_Mod_dayGoes_53 0 N2 := b2
  have b3' := b3
  obtain ⟨p0, p1, p2, p3, p4, p5, p6, p7, p8⟩ := b3'
  have hcD : D = -1 ∨ (0 ≤ D ∧ D ≤ 24 ∧ cntI (N2 101) 2 n = D + N2 100 38) := by
    rcases p8 with p8 | p8
    · exact Or.inl p8
    · refine Or.inr ⟨p8.2.2.1, p8.2.2.2.1, ?_⟩
      rw [← p8.1, p6 10 (by omega), cntI_cntB, cntI_cntB]
      exact cntB_congr n (fun c hc => decide_eq_decide.mpr (pl_10 (p3 c hc).1).symm)
  obtain ⟨N3, c1, c2, c3, c4⟩ := henA_L b3 n 0 N2 (by omega) (fun _ _ _ _ => rfl) (fun c' _ z => by omega) (fun _ _ _ => ⟨rfl, rfl⟩) hcD
  have c1' : m_Mod_dayGoes_53 0 N2 = m_Mod_dayGoes_98 0 N3 := c1
  have y3 : gY N2 N3 := fun a i z1 _ _ z2 => c2 a i (by omega) (by omega)
  obtain ⟨M4, N4, d1, d2, d3⟩ := henB_L (D := D) (M := M2) (N := N2) p0 hr p1.1 hn p2 p1.2.2.2.2.1 n 0 M2 N3 (by omega) ⟨gX.rf _ _ _, y3, rfl, rfl, fun i hi => c2 101 i (by omega) (by omega), c2 100 39 (by omega) (by omega), p6, fun c' hc' => by rw [if_neg (by omega)]; exact c3 c' hc', fun c' hc' => by rw [c2 101 (48 + c') (by omega) (by omega)]; exact (p3 c' hc').2, c4, fun c' hc' => pl_rg (p3 c' hc').1⟩
  have d1' : m_Terrace_dayGoesBy_73 k kr kc 0 M2 = some (none, pz_wr M4 k 5 (ia (M4 k 5) 1)) := d1
  have d2' : m_Mod_dayGoes_98 0 N3 = some (none, pz_wr N4 101 81 (ia (N4 101 81) 1)) := d2
  rw [a1', b1', d1', a2', b2', c1', d2']
  obtain ⟨x, y, q0, q3, y72, y39, ql, qp, qa, qc, qr⟩ := d3
  obtain ⟨u1, u2, u3, u4, u5, u6⟩ := p5
  have e5 : M4 k 5 = M2 k 5 := by rw [q0]
  have e81 : N4 101 81 = M2 k 5 := by rw [y72 81 (by omega), u1]
  rw [e5, e81, ia_eq (by omega) (by omega)]
  have X : gX k kr M (pz_wr M4 k 5 (M2 k 5 + 1)) := ((a4.tr b4).tr x).tr ⟨fun c i z _ _ _ => wr_cell (by omega), wr_idx (by decide)⟩
  have Y : gY N (pz_wr N4 101 81 (M2 k 5 + 1)) := ((a5.tr b5).tr y).tr (fun c i z _ _ _ => by unfold pz_wr; rw [if_neg (by omega)])
  have ex : ∀ c, c ≠ k → pz_wr M4 k 5 (M2 k 5 + 1) c = M4 c := fun c z => funext fun i => wr_cell z
  have ey : ∀ i, i ≠ 81 → pz_wr N4 101 81 (M2 k 5 + 1) 101 i = N4 101 i := fun i z => wr_idx z
  refine ⟨_, _, rfl, rfl, ⟨g0, cases_g g0 hr g1 X Y, by rw [X.2]; exact g2, ?_, ?_, law_g g0 g5 X Y, ?_⟩, X, Y⟩
  · refine ⟨fun c hc => ?_, fun p hp => ?_, ?_⟩
    · have w := qp c hc
      rw [if_pos hc] at w
      rw [ex _ (by omega), ex _ (by omega), ey c (by omega), ey (24 + c) (by omega), ey (48 + c) (by omega)]
      exact ⟨w, qa c hc⟩
    · have w := p4 p hp
      rw [ex _ (by omega), q3, ey (72 + p) (by omega), y72 (72 + p) (by omega), wr_same]
      refine ⟨w.1, w.2.1, Int.le_trans w.2.2 ?_⟩
      split <;> omega
    · rw [wr_same, wr_same, ey 82 (by omega), y72 82 (by omega), wr_idx (show 6 ≠ 5 by decide), q0]
      exact ⟨rfl, by omega, by omega, u4, u5, u6⟩
  · intro i hi
    rw [ex _ (by omega), ex _ (by omega)]
    exact ql i hi
  · rcases p8 with p8 | ⟨v1, v2, v3⟩
    · exact Or.inl p8
    · have qc' : cntI (N4 101) 2 n = D + N4 100 38 := by
        rcases qc with z | z
        · omega
        · exact z.2.2
      refine Or.inr ⟨?_, ?_, v3⟩
      · rw [ex _ (by omega), wr_cell (show (100 : Nat) ≠ 101 by decide), ql 10 (by omega), ← qc', cntI_cntB, cntI_cntB]
        exact cntB_congr n (fun c hc => decide_eq_decide.mpr (by
          have w := qp c hc
          rw [if_pos hc] at w
          exact pl_10 w))
      · rw [ex _ (by omega), q3, wr_cell (show (100 : Nat) ≠ 101 by decide), y39]
        exact v2
