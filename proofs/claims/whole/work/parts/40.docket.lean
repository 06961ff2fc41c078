theorem Ter_begin {M : pz_M} {ks n : Nat} (hks : ks = 1 ∨ ks = 7) (h5 : M ks 5 = n) (hn : n ≤ 24) (hp : ∀ c, c < n → 0 ≤ M (ks + 4) c ∧ M (ks + 4) c ≤ 10) : ∃ M', m_Terrace_begin 49 ks M = some (none, M') ∧ M' 49 4 = n ∧ (∀ i, i < 24 → M' 50 i = M (ks + 4) i) ∧ (∀ i, i < 24 → M' 51 i = 0) ∧ (∀ i, i < 9 → M' 52 i = 0) ∧ rl_load M' 49 n ∧ (∀ c i, (c < 49 ∨ 53 < c) → M' c i = M c i) ∧ M' 49 5 = M 49 5 ∧ M' 49 6 = M 49 6 := by
  rw [m_Terrace_begin_eq 49 ks M rfl (dk_cls hks), bM_eq, h5, grd_pos (by omega), bM_eq]
  have hA : ∀ c i, pz_cpy (pz_wr M 49 4 (n : Int)) (ks + 4) 50 0 0 24 c i = if c = 50 ∧ i < 24 then M (ks + 4) i else if c = 49 ∧ i = 4 then (n : Int) else M c i := by
    intro c i
    have e := cpy_at (M := pz_wr M 49 4 (n : Int)) (k0 := ks + 4) (k1 := 50) (n := 24) (c := c) (i := i)
    rw [e, wr_cell (c := ks + 4) (by omega)]
    rfl
  show ∃ M', (bV (m_Arrays_fill 51 0 (pz_cpy (pz_wr M 49 4 (n : Int)) (ks + 4) 50 0 0 24)) fun M3 => bV (m_Arrays_fill 52 0 M3) fun M4 => bV (m_Terrace_countLoads 49 M4) fun M5 => some (none, M5)) = some (none, M') ∧ _
  generalize pz_cpy (pz_wr M 49 4 (n : Int)) (ks + 4) 50 0 0 24 = M2 at hA
  obtain ⟨M3, f1, f2, f3⟩ := Arrays_fill (M := M2) (k := 51) rfl (by decide) 0
  obtain ⟨M4, g1, g2, g3⟩ := Arrays_fill (M := M3) (k := 52) rfl (by decide) 0
  have f2' : ∀ i, i < 24 → M3 51 i = 0 := f2
  have g2' : ∀ i, i < 9 → M4 52 i = 0 := g2
  have e4 : ∀ c i, c ≠ 51 → c ≠ 52 → M4 c i = M2 c i := fun c i z1 z2 => by rw [g3 c i (fun q => z2 q.1), f3 c i (fun q => z1 q.1)]
  have h50 : ∀ i, i < 24 → M4 50 i = M (ks + 4) i := fun i hi => by rw [e4 50 i (by decide) (by decide), hA, if_pos ⟨rfl, hi⟩]
  have h494 : M4 49 4 = n := by rw [e4 49 4 (by decide) (by decide), hA, if_neg (by decide), if_pos ⟨rfl, rfl⟩]
  obtain ⟨M5, l1, l2, l3⟩ := Ter_loads (M := M4) (k := 49) (n := n) rfl h494 hn (fun c hc => by rw [h50 c (by omega)]; exact hp c hc)
  rw [f1, bV_some, g1, bV_some, l1, bV_some]
  have l3' : ∀ c i, c ≠ 53 → M5 c i = M4 c i := l3
  refine ⟨M5, rfl, by rw [l3' 49 4 (by decide)]; exact h494, fun i hi => by rw [l3' 50 i (by decide)]; exact h50 i hi, fun i hi => ?_, fun i hi => by rw [l3' 52 i (by decide)]; exact g2' i hi, l2, fun c i z => ?_, ?_, ?_⟩
  · rw [l3' 51 i (by decide), g3 51 i (fun q => absurd q.1 (by decide))]; exact f2' i hi
  · rw [l3' c i (by omega), e4 c i (by omega) (by omega), hA, if_neg (by omega), if_neg (by omega)]
  · rw [l3' 49 5 (by decide), e4 49 5 (by decide) (by decide), hA, if_neg (by decide), if_neg (by decide)]
  · rw [l3' 49 6 (by decide), e4 49 6 (by decide) (by decide), hA, if_neg (by decide), if_neg (by decide)]
theorem Mod_dk33 {w1 w3 : pz_V} : ∀ (j x : Nat) (N : pz_M), x + j = 9 → (∀ q, q < x → N 125 q = 0) → ∃ N', m_Mod_docket_33 w1 (x : Int) w3 N = (bI (m_Mod_readsCase N') fun r3 M2 => m_Mod_docket_57 w1 r3 w3 M2) ∧ (∀ q, q < 9 → N' 125 q = 0) ∧ (∀ c i, c ≠ 125 → N' c i = N c i) := by
  intro j
  induction j with
  | zero =>
    intro x N hj hq
    exact ⟨N, by rw [m_Mod_docket_33_eq, if_neg (show ¬ (x : Int) < 9 by omega)], fun q h => hq q (by omega), fun c i _ => rfl⟩
  | succ j ih =>
    intro x N hj hq
    rw [m_Mod_docket_33_eq, if_pos (show (x : Int) < 9 by omega), grd_pos (by omega), bM_eq, ia_eq (by omega) (by omega), show ((x : Nat) : Int).toNat = x from rfl]
    obtain ⟨N', g1, g2, g3⟩ := ih (x + 1) (pz_wr N 125 x 0) (by omega) (fun q h => by
      rw [wr_at]
      by_cases e : q = x
      · rw [if_pos e]
      · rw [if_neg e]; exact hq q (by omega))
    exact ⟨N', g1, g2, fun c i z => by rw [g3 c i z, wr_cell z]⟩
theorem ag_docket {M N : pz_M} (h : rl M N) (x : Int) : agree (m_Desk_docket x M) (m_Mod_docket x N) := by
  have hT := h.1
  rw [m_Desk_docket_eq, m_Mod_docket_eq, Tape_take, Mod_in, bI_some, b01_ite]
  by_cases hx : 1 ≤ x ∧ x ≤ 160
  rotate_left
  · rw [if_neg hx, if_neg (show ¬ (1 ≤ x ∧ x ≤ 160 ∧ x ≤ M 29 1) by omega), bI_some, if_pos rfl]
    exact agree_same h _ rfl rfl
  rw [if_pos hx]
  by_cases ht : x ≤ M 29 1
  rotate_left
  · rw [if_neg (show ¬ (1 ≤ x ∧ x ≤ 160 ∧ x ≤ M 29 1) by omega), bI_some, if_pos rfl, if_pos (show N 100 8 < x by rw [← hT.1]; omega)]
    exact agree_same h _ rfl rfl
  rw [if_pos (show (1 ≤ x ∧ x ≤ 160 ∧ x ≤ M 29 1) by omega), bI_some, if_neg (show ¬ (1 : Int) = 0 by omega), if_neg (show ¬ N 100 8 < x by rw [← hT.1]; omega)]
  obtain ⟨y, ey⟩ : ∃ y : Nat, x = y := ⟨x.toNat, by omega⟩
  subst ey
  have h2 := rl_tk h y
  have hX0 := txX_tk hT (show (y : Int) ≤ M 29 1 by omega)
  have hb := hT.2.2.2
  generalize tk M y = M1 at h2 hX0
  have h2' := h2
  obtain ⟨hT1, ⟨kc, n0, hc1, ht1, hl1⟩, hk1, ⟨kr, nr, hw1⟩, hp1⟩ := h2'
  have hkc := hc1.1
  have h00 : M1 0 0 = kc := hc1.2.1
  obtain ⟨ks, eks⟩ : ∃ ks : Nat, M1 0 1 = ks ∧ (ks = 1 ∧ kc = 7 ∨ ks = 7 ∧ kc = 1) := ⟨8 - kc, by have := hc1.2.2.1; omega⟩
  have hks : ks = 1 ∨ ks = 7 := by omega
  have hcl := dk_cls hks
  rw [eks.1, show ((ks : Nat) : Int).toNat = ks from rfl, grd_pos hcl, m_Docket_readFrom_eq _ _ hcl, bM_eq, m_Mod_beginsText_eq, bM_eq, bM_eq, bM_eq, bM_eq, bV_some, bM_eq]
  have hlen : pz_len (ks + 5) = 9 ∧ pz_cls (ks + 5) = 20 := by rcases hks with rfl | rfl <;> decide
  obtain ⟨M2, f1, f2, f3⟩ := Arrays_fill (M := pz_wr M1 ks 5 0) (k := ks + 5) hlen.2 (by rw [hlen.1]; decide) 12
  rw [hlen.1] at f2 f3
  have f3' : ∀ c i, c ≠ ks + 5 → M2 c i = pz_wr M1 ks 5 0 c i := fun c i z => f3 c i (fun q => z q.1)
  rw [f1, bV_some]
  have hX : txX M2 0 y (M 30) := by
    obtain ⟨b1, b2, b3, b4, b5⟩ := hX0
    refine ⟨by rw [f3' _ _ (by omega), wr_cell (by omega)]; exact b1, by rw [f3' _ _ (by omega), wr_cell (by omega)]; exact b2, b3, b4, fun i hi => ?_⟩
    rw [f3' _ _ (by omega), wr_cell (by omega)]
    exact b5 i hi
  have kx : kXd ks M1 M2 := by
    intro c i q z
    rw [f3' c i (by omega), wr_cell (by omega)]
  have e1 : pz_wr (pz_wr (pz_wr (pz_wr (pz_wr N 100 9 0) 100 10 (y : Int)) 100 14 0) 100 16 0) 100 36 0 100 9 = 0 := by rw [wr_idx (by decide), wr_idx (by decide), wr_idx (by decide), wr_idx (by decide), wr_same]
  have e2 : pz_wr (pz_wr (pz_wr (pz_wr (pz_wr N 100 9 0) 100 10 (y : Int)) 100 14 0) 100 16 0) 100 36 0 100 10 = y := by rw [wr_idx (by decide), wr_idx (by decide), wr_idx (by decide), wr_same]
  have e3 : pz_wr (pz_wr (pz_wr (pz_wr (pz_wr N 100 9 0) 100 10 (y : Int)) 100 14 0) 100 16 0) 100 36 0 100 36 = 0 := wr_same
  have e5 : ∀ i, pz_wr (pz_wr (pz_wr (pz_wr (pz_wr N 100 9 0) 100 10 (y : Int)) 100 14 0) 100 16 0) 100 36 0 107 i = N 107 i := fun i => by rw [wr_cell (by decide), wr_cell (by decide), wr_cell (by decide), wr_cell (by decide), wr_cell (by decide)]
  have ky : kY N (pz_wr (pz_wr (pz_wr (pz_wr (pz_wr N 100 9 0) 100 10 (y : Int)) 100 14 0) 100 16 0) 100 36 0) := (((((kY.rf N).wr rfl).wr rfl).wr rfl).wr rfl).wr rfl
  generalize pz_wr (pz_wr (pz_wr (pz_wr (pz_wr N 100 9 0) 100 10 (y : Int)) 100 14 0) 100 16 0) 100 36 0 = N2 at e1 e2 e3 e5 ky
  obtain ⟨N3, n1, n2, n3⟩ := Mod_dk33 (w1 := pzI (y : Int)) (w3 := pzN) 9 0 N2 (by omega) (fun q hq => by omega)
  have n1' : m_Mod_docket_33 (pzI (y : Int)) 0 pzN N2 = (bI (m_Mod_readsCase N3) fun r3 M2 => m_Mod_docket_57 (pzI (y : Int)) r3 pzN M2) := n1
  rw [n1']
  have ky3 : kY N N3 := by
    intro c i q
    rw [n3 c i (by intro z; rw [z] at q; exact Bool.noConfusion q)]
    exact ky c i q
  have hN : txY N3 0 y (M 30) := by
    refine ⟨by rw [n3 _ _ (by decide)]; exact e1, by rw [n3 _ _ (by decide)]; exact e2, by omega, by omega, fun i hi => ?_⟩
    rw [n3 _ _ (by decide), e5 i]
    have := hb i hi
    exact ⟨this.1, this.2.1, this.2.2.symm⟩
  have hI : rdD M2 N3 ks 0 := by
    refine ⟨by rw [f3' _ _ (by omega), wr_same]; rfl, by rw [n3 _ _ (by decide)]; exact e3, by omega, fun c hc => by omega, fun c hc => by omega, fun q hq => ?_⟩
    rw [f2 q hq, n2 q hq]
    omega
  rcases dk_loop (u1 := pzI (y : Int)) (u3 := pzN) hks 24 0 M2 N3 0 (by omega) hX hN hI with ⟨M', N', g1, g2, g3, g4, g5⟩ | ⟨M', N', l', g1, g2, g3, g4, g5⟩
  · rw [show m_Docket_readFrom_16 ks 0 M2 = some (some (pzI 0), M') from g1, bI_some, if_pos rfl, g2, m_Mod_docket_97_eq, bM_eq, if_pos rfl, wr_idx (by decide), ← g3]
    exact ⟨_, M', _, rfl, rfl, rl_dk h2 eks.1 (kx.tr g4) (kY_8 (ky3.tr g5) 0)⟩
  · have kxx := kx.tr g4
    have kyy := kY_8 (ky3.tr g5) 0
    have hg : ∀ c i, cX c i = true → ¬ (ks ≤ c ∧ c ≤ ks + 5) → M' c i = M1 c i := kxx
    obtain ⟨a1, a2, a3, a4, a5, a6⟩ := g3
    have z01 : M' 0 1 = ks := by rw [hg 0 1 rfl (by omega)]; exact eks.1
    have z00 : M' 0 0 = kc := by rw [hg 0 0 rfl (by omega)]; exact h00
    rw [show m_Docket_readFrom_16 ks 0 M2 = some (some (pzI 1), M') from g1, bI_some, if_neg (show ¬ (1 : Int) = 0 by omega), z01, z00, show ((ks : Nat) : Int).toNat = ks from rfl, show ((kc : Nat) : Int).toNat = kc from rfl, grd_pos (by omega), bM_eq, grd_pos (by omega), bM_eq, wr_idx (i := 1) (j := 0) (by decide), wr_same, show ((ks : Nat) : Int).toNat = ks from rfl]
    have m6 : ∀ c i, c ≠ 0 ∨ (i ≠ 0 ∧ i ≠ 1) → pz_wr (pz_wr M' 0 0 (ks : Int)) 0 1 (kc : Int) c i = M' c i := by
      intro c i z
      unfold pz_wr
      rw [if_neg (by omega), if_neg (by omega)]
    have m60 : pz_wr (pz_wr M' 0 0 (ks : Int)) 0 1 (kc : Int) 0 0 = ks := by rw [wr_idx (by decide), wr_same]
    have m61 : pz_wr (pz_wr M' 0 0 (ks : Int)) 0 1 (kc : Int) 0 1 = kc := wr_same
    generalize pz_wr (pz_wr M' 0 0 (ks : Int)) 0 1 (kc : Int) = M6 at m6 m60 m61
    have hpl : ∀ c, c < l' → 0 ≤ M6 (ks + 4) c ∧ M6 (ks + 4) c ≤ 10 := by
      intro c hc
      rw [m6 _ _ (by omega)]
      have := a5 c hc
      unfold rpl at this
      omega
    obtain ⟨M7, t1, t2, t3, t4, t5, t6, t7, t8, t9⟩ := Ter_begin (M := M6) hks (by rw [m6 _ _ (by omega)]; exact a1) a3 hpl
    have z70 : M7 0 0 = ks := by rw [t7 0 0 (by omega)]; exact m60
    rw [t1, bV_some, z70, show ((ks : Nat) : Int).toNat = ks from rfl, grd_pos hcl]
    rw [g2, m_Mod_docket_97_eq, bM_eq, if_neg (show ¬ (1 : Int) = 0 by omega), bM_eq, wr_idx (i := 8) (j := 36) (by decide), a2]
    have q6 : pz_wr (pz_wr N' 100 8 0) 100 6 (l' : Int) 100 6 = l' := wr_same
    have qo : ∀ c i, c ≠ 100 ∨ i ≠ 6 → pz_wr (pz_wr N' 100 8 0) 100 6 (l' : Int) c i = pz_wr N' 100 8 0 c i := by
      intro c i z
      show (if c = 100 ∧ i = 6 then _ else _) = _
      rw [if_neg (by omega)]
    generalize pz_wr (pz_wr N' 100 8 0) 100 6 (l' : Int) = N5 at q6 qo
    have q8 : ∀ c i, c ≠ 100 → pz_wr N' 100 8 0 c i = N' c i := fun c i z => wr_cell z
    obtain ⟨N6, u1, u2⟩ := Mod_dkNow (N0 := N5) (w1 := pzI (y : Int)) (w2 := pzI 1) a3 q6 l' 0 N5 (by omega) ⟨fun c hc => by omega, fun c i _ _ _ _ => rfl, fun i _ => rfl⟩
    obtain ⟨N7, v1, v2, v3⟩ := Mod_dkCries (w1 := pzI (y : Int)) (w2 := pzI 1) 9 0 N6 (by omega) (fun q hq => by omega)
    have u1' : m_Mod_docket_121 (pzI (y : Int)) (pzI 1) 0 N5 = m_Mod_docket_221 (pzI (y : Int)) (pzI 1) 0 N6 := u1
    have v1' : m_Mod_docket_221 (pzI (y : Int)) (pzI 1) 0 N6 = some (some (pzI (N6 100 6)), N7) := v1
    rw [u1', v1', u2.2.1 100 6 (by decide) (by decide) (by decide) (by decide), q6, t7 ks 5 (by omega), m6 ks 5 (by omega), a1]
    have y7 : ∀ c i, c ≠ 101 → c ≠ 104 → c ≠ 105 → c ≠ 106 → (c ≠ 100 ∨ i ≠ 6) → N7 c i = pz_wr N' 100 8 0 c i := fun c i z1 z2 z3 z4 z5 => by rw [v3 c i (Or.inl z1), u2.2.1 c i z1 z2 z3 z4, qo c i z5]
    have y7' : ∀ c i, cY c i = true → c ≠ 101 → c ≠ 104 → c ≠ 105 → c ≠ 106 → (c ≠ 100 ∨ i ≠ 6) → N7 c i = pz_wr N 100 8 0 c i := fun c i zc z1 z2 z3 z4 z5 => by rw [y7 c i z1 z2 z3 z4 z5]; exact kyy c i zc
    have x7 : ∀ c i, cX c i = true → ¬ (ks ≤ c ∧ c ≤ ks + 5) → (c < 49 ∨ 53 < c) → (c ≠ 0 ∨ (i ≠ 0 ∧ i ≠ 1)) → M7 c i = M1 c i := fun c i z1 z2 z3 z4 => by rw [t7 c i z3, m6 c i z4]; exact hg c i z1 z2
    refine ⟨l', M7, N7, rfl, rfl, ?_, ⟨ks, l', ?_, ?_, t6⟩, ?_, ⟨kr, nr, ?_⟩, ?_⟩
    · unfold rl_tape at hT1 ⊢
      rw [x7 29 1 rfl (by omega) (by omega) (by omega), y7' 100 8 rfl (by decide) (by decide) (by decide) (by decide) (by decide)]
      refine ⟨hT1.1, hT1.2.1, hT1.2.2.1, fun i hi => ?_⟩
      rw [x7 30 i (cX_row (by omega)) (by omega) (by omega) (by omega), y7' 107 i (cY_row (by omega)) (by decide) (by decide) (by decide) (by decide) (by omega)]
      exact hT1.2.2.2 i hi
    · refine ⟨by omega, z70, by rw [t7 0 1 (by omega), m61]; omega, t2, ?_, a3, by rw [t7 ks 5 (by omega), m6 ks 5 (by omega)]; exact a1, fun c hc => ?_⟩
      · rw [v3 100 6 (by omega), u2.2.1 100 6 (by decide) (by decide) (by decide) (by decide)]; exact q6
      · have w := u2.1 c hc
        have cw := a4 c hc
        unfold cwD at cw
        have r104 : N7 104 c = N' 121 c := by rw [v3 104 c (by omega), w.1, qo 121 c (by omega), q8 121 c (by decide)]
        have r105 : N7 105 c = N' 122 c := by rw [v3 105 c (by omega), w.2.1, qo 122 c (by omega), q8 122 c (by decide)]
        have r106 : N7 106 c = N' 123 c := by rw [v3 106 c (by omega), w.2.2.1, qo 123 c (by omega), q8 123 c (by decide)]
        rw [t7 (ks + 1) c (by omega), t7 (ks + 2) c (by omega), t7 (ks + 3) c (by omega), m6 (ks + 1) c (by omega), m6 (ks + 2) c (by omega), m6 (ks + 3) c (by omega), r104, r105, r106]
        exact cw
    · have hlast : ∀ i, 81 ≤ i → i < 83 → N7 101 i = pz_wr N 100 8 0 101 i := by
        intro i z1 z2
        rw [v3 101 i (by omega), u2.2.2 i (by omega), qo 101 i (by omega)]
        exact kyy 101 i (cY_row (by omega))
      obtain ⟨_, _, s1, s2, s3, s4, s5, s6⟩ := ht1
      have x49 : ∀ i, i = 5 ∨ i = 6 → M7 49 i = M1 49 i := by
        intro i z
        rcases z with rfl | rfl
        · rw [t8, m6 49 5 (by omega)]; exact hg 49 5 rfl (by omega)
        · rw [t9, m6 49 6 (by omega)]; exact hg 49 6 rfl (by omega)
      refine ⟨fun c hc => ?_, fun p hp => ?_, ?_⟩
      · have w := u2.1 c hc
        have e124 : N5 124 c = N' 124 c := by rw [qo 124 c (by omega), q8 124 c (by decide)]
        have rp := a5 c hc
        rw [e124] at w
        have m50 : M7 50 c = M' (ks + 4) c := by rw [t3 c (by omega), m6 _ _ (by omega)]
        show rl_pl (M7 50 c) (N7 101 c) (N7 101 (24 + c)) ∧ M7 51 c = N7 101 (48 + c) ∧ 0 ≤ M7 51 c ∧ M7 51 c ≤ 9999
        rw [m50, v3 101 c (by omega), v3 101 (24 + c) (by omega), v3 101 (48 + c) (by omega), w.2.2.2.1, w.2.2.2.2.1, w.2.2.2.2.2, t4 c (by omega)]
        refine ⟨?_, rfl, by omega, by omega⟩
        unfold rpl at rp
        unfold rl_pl
        rcases rp with ⟨r1, r2⟩ | ⟨r1, r2, r3⟩
        · left; rw [if_pos r2]; exact ⟨r1, rfl⟩
        · right; right; rw [if_neg (by omega)]; exact ⟨r1, r2, rfl, r3⟩
      · show M7 52 p = N7 101 (72 + p) ∧ 0 ≤ M7 52 p ∧ M7 52 p ≤ M7 49 5
        rw [t5 p hp, v2 p hp, x49 5 (by omega)]
        omega
      · rw [x49 5 (by omega), x49 6 (by omega), hlast 81 (by omega) (by omega), hlast 82 (by omega) (by omega)]
        exact ⟨s1, s2, s3, s4, s5, s6⟩
    · exact rl_kept_of hk1 (x7 0 13 rfl (by omega) (by omega) (by omega)) (fun c i z1 z2 => x7 c i (cX_row (by omega)) (by omega) (by omega) (by omega)) (y7' 100 48 rfl (by decide) (by decide) (by decide) (by decide) (by decide)) (y7' 100 49 rfl (by decide) (by decide) (by decide) (by decide) (by decide)) (fun i => y7' 103 i (cY_row (by omega)) (by decide) (by decide) (by decide) (by decide) (by omega))
    · refine rl_law_of hw1 (x7 0 2 rfl (by omega) (by omega) (by omega)) (x7 0 3 rfl (by omega) (by omega) (by omega)) ?_ (fun c i z => x7 c i (cX_row (by omega)) (by omega) (by omega) (by omega)) (y7' 100 17 rfl (by decide) (by decide) (by decide) (by decide) (by decide)) (fun c i z1 z2 => y7' c i (cY_row (by omega)) (by omega) (by omega) (by omega) (by omega) (by omega))
      intro k hk
      rcases hk with rfl | rfl
      · exact ⟨x7 13 3 rfl (by omega) (by omega) (by omega), x7 13 6 rfl (by omega) (by omega) (by omega)⟩
      · exact ⟨x7 21 3 rfl (by omega) (by omega) (by omega), x7 21 6 rfl (by omega) (by omega) (by omega)⟩
    · unfold pathOK at hp1 ⊢
      rw [x7 42 2 rfl (by omega) (by omega) (by omega), x7 42 3 rfl (by omega) (by omega) (by omega)]
      exact hp1
