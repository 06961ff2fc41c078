/-! docket: a line, all lines, the new day -/
theorem dk_line {M N : pz_M} {ks l e p : Nat} {t : Nat → Int} (hks : ks = 1 ∨ ks = 7) (hX : txX M p e t) (hN : txY N p e t) (hI : rdD M N ks l) : resD (m_Docket_readLine ks M) (m_Mod_readsCase N) M N ks (l + 1) e t ∧ (l = 24 → ∃ M' N', m_Docket_readLine ks M = some (some (pzI 0), M') ∧ m_Mod_readsCase N = some (some (pzI 0), N') ∧ M' 29 4 = N' 100 11 ∧ kXd ks M M' ∧ kY N N') := by
  have hcl := dk_cls hks
  obtain ⟨a1, a2, a3, a4, a5, a6⟩ := hI
  have e1 := hX.2.2
  have hh := hr_rg hX
  rw [m_Docket_readLine_eq _ _ hcl, Tape_peek hX, bI_some, m_Docket_readLine_17_eq _ _ _ _ hcl, m_Mod_readsCase_eq, Mod_here hN, bI_some, isb_eq (x := hr p e t) (by omega) (by omega), Mod_in, bI_some, b01_ite]
  by_cases c : 0 ≤ hr p e t - 97 ∧ hr p e t - 97 ≤ 15
  rotate_left
  · have f1 : ∀ (A : Option pz_A), (if hr p e t < 97 then (bI (m_Tape_fail 1 M) fun r2 M1 => grd (r2 = 0 ∨ r2 = 1) (some (some (pzI r2), M1))) else (if 112 < hr p e t then (bI (m_Tape_fail 1 M) fun r2 M1 => grd (r2 = 0 ∨ r2 = 1) (some (some (pzI r2), M1))) else A)) = some (some (pzI 0), pz_wr M 29 4 (isb (imu (-1000) 1) p)) := by
      intro A
      rw [fail_X hX, bI_some, grd_pos (by omega)]
      by_cases d : hr p e t < 97
      · rw [if_pos d]
      · rw [if_neg d, if_pos (show 112 < hr p e t by omega)]
    rw [f1, if_neg c, hN.1, fail_Y, bI_some, grd_pos (by omega)]
    exact ⟨resD_bad _, fun _ => ⟨_, _, rfl, rfl, by rw [wr_same, wr_same], ((kX.rf M).wr rfl).tod, (kY.rf N).wr rfl⟩⟩
  have hpe := hr_lt (show 0 ≤ hr p e t by omega)
  rw [if_neg (show ¬ hr p e t < 97 by omega), if_neg (show ¬ 112 < hr p e t by omega), if_pos c, a1, a2]
  by_cases h24 : l = 24
  · rw [if_neg (show ¬ (l : Int) < 24 by omega), if_pos (show (l : Int) = 24 by omega), fail_X hX, bI_some, grd_pos (by omega), hN.1, fail_Y, bI_some, grd_pos (by omega)]
    exact ⟨resD_bad _, fun _ => ⟨_, _, rfl, rfl, by rw [wr_same, wr_same], ((kX.rf M).wr rfl).tod, (kY.rf N).wr rfl⟩⟩
  refine ⟨?_, fun z => absurd z h24⟩
  rw [if_pos (show (l : Int) < 24 by omega), if_neg (show ¬ (l : Int) = 24 by omega), Tape_step hX, bV_some, Mod_here hN, bI_some, grd_pos (by omega), bM_eq, wr_cell (c := 100) (k := 121) (by omega), hN.1, ia_eq (x := (p : Int)) (by omega) (by omega), bM_eq, isb_eq (x := hr p e t) (by omega) (by omega), show ((l : Nat) : Int).toNat = l from rfl]
  have hX1 := hX.st hpe
  have hN1 := (hN.wr (k := 121) (j := l) (x := hr p e t - 97) (by omega) (by omega)).st hpe
  have kx1 : kXd ks M (pz_wr M 29 2 ((p : Int) + 1)) := ((kX.rf M).wr rfl).tod
  have ky1 : kY N (pz_wr (pz_wr N 121 l (hr p e t - 97)) 100 9 ((p : Int) + 1)) := ((kY.rf N).wr rfl).wr rfl
  rcases num_2' hX1 hN1 with ⟨M', N', g1, g2, g3⟩ | ⟨M', N', p', v', g1, g2, g3, g4, g5, g6, g7, g8, g9, g10⟩
  · rw [g1, bI_some, if_pos (show (-1 : Int) < 0 by omega), g2, bI_some, if_pos rfl]
    exact Or.inl ⟨M', N', rfl, rfl, g3.1, kx1.tr g3.2.1.k.tod, ky1.tr g3.2.2.k⟩
  have g5' : v' < 100 := g5
  have m5 : M' ks 5 = l := by rw [g9 ks 5 (by omega), wr_cell (by omega)]; exact a1
  have n36 : N' 100 36 = l := by rw [g10 100 36 (by omega), wr_idx (by omega), wr_cell (by omega)]; exact a2
  rw [g1, bI_some, if_neg (show ¬ v' < 0 by omega), m5, grd_pos (by omega), bM_eq, wr_cell (c := ks) (k := ks + 1) (by omega), m5, grd_pos (by omega), bM_eq, wr_cell (c := ks) (k := ks + 2) (by omega), wr_cell (c := ks) (k := ks + 1) (by omega), m5, grd_pos (by omega), bM_eq, wr_cell (c := ks) (k := ks + 3) (by omega), wr_cell (c := ks) (k := ks + 2) (by omega), wr_cell (c := ks) (k := ks + 1) (by omega), m5, grd_pos (by omega), bM_eq, show ((l : Nat) : Int).toNat = l from rfl]
  rw [g2, bI_some, if_neg (show ¬ (1 : Int) = 0 by omega), n36, grd_pos (by omega), bM_eq, g3, wr_cell (c := 100) (k := 122) (by omega), n36, show ((l : Nat) : Int).toNat = l from rfl]
  have hX5 := (((g6.wr (k := ks + 1) (j := l) (x := hr p e t - 97) (by omega) (by omega)).wr (k := ks + 2) (j := l) (x := v') (by omega) (by omega)).wr (k := ks + 3) (j := l) (x := 0) (by omega) (by omega)).wr (k := ks + 4) (j := l) (x := 9) (by omega) (by omega)
  have hN5 := g7.wr (k := 122) (j := l) (x := v') (by omega) (by omega)
  have kx5 : kXd ks M (pz_wr (pz_wr (pz_wr (pz_wr M' (ks + 1) l (hr p e t - 97)) (ks + 2) l v') (ks + 3) l 0) (ks + 4) l 9) := ((((kx1.tr g9.k.tod).wr (by omega)).wr (by omega)).wr (by omega)).wr (by omega)
  have ky5 : kY N (pz_wr N' 122 l v') := (ky1.tr g10.k).wr rfl
  have kM : ∀ c i, (c ≠ 29 ∨ (i ≠ 2 ∧ i ≠ 4)) → pz_wr (pz_wr (pz_wr (pz_wr M' (ks + 1) l (hr p e t - 97)) (ks + 2) l v') (ks + 3) l 0) (ks + 4) l 9 c i = if c = ks + 1 ∧ i = l then hr p e t - 97 else if c = ks + 2 ∧ i = l then v' else if c = ks + 3 ∧ i = l then 0 else if c = ks + 4 ∧ i = l then 9 else M c i := by
    intro c i h
    have h9 := g9 c i h
    have h8 : pz_wr M 29 2 ((p : Int) + 1) c i = M c i := by unfold pz_wr; rw [if_neg (by omega)]
    unfold pz_wr at h8 h9 ⊢
    (repeat' split) <;> first | rfl | omega
  have kN : ∀ c i, (c ≠ 100 ∨ (i ≠ 9 ∧ i ≠ 11 ∧ i ≠ 12)) → pz_wr N' 122 l v' c i = if c = 121 ∧ i = l then hr p e t - 97 else if c = 122 ∧ i = l then v' else N c i := by
    intro c i h
    have h9 := g10 c i h
    unfold pz_wr at h9 ⊢
    (repeat' split) <;> first | rfl | omega | (rw [h9]; (repeat' split) <;> first | rfl | omega)
  generalize pz_wr (pz_wr (pz_wr (pz_wr M' (ks + 1) l (hr p e t - 97)) (ks + 2) l v') (ks + 3) l 0) (ks + 4) l 9 = M5 at hX5 kx5 kM
  generalize pz_wr N' 122 l v' = N5 at hN5 ky5 kN
  have b1 : M5 ks 5 = l := by rw [kM ks 5 (by omega), if_neg (by omega), if_neg (by omega), if_neg (by omega), if_neg (by omega)]; exact a1
  have b2 : N5 100 36 = l := by rw [kN 100 36 (by omega), if_neg (by omega), if_neg (by omega)]; exact a2
  rw [Tape_peek hX5, bI_some, Mod_here hN5, bI_some]
  /- the last step of both, for either sign -/
  have go : ∀ (M6 N6 : pz_M) (q : Nat) (u : Int) (w2 w3 u1 : pz_V), txX M6 q e t → (0 ≤ u ∧ u ≤ 1) → kXd ks M5 M6 → (∀ c i, (c ≠ 29 ∨ i ≠ 2) → M6 c i = if c = ks + 3 ∧ i = l then u else M5 c i) → txY N6 q e t → kY N5 N6 → (∀ c i, (c ≠ 100 ∨ i ≠ 9) → N6 c i = if c = 123 ∧ i = l then u else if c = 124 ∧ i = l then -1 else N5 c i) → resD (m_Docket_readLine_121 ks w2 w3 M6) (bI (m_Mod_here N6) fun r5 M4 => if r5 = (62 : Int) then (bM (pz_wr M4 100 9 (ia (M4 100 9) 1)) fun M6 => bI (m_Mod_here M6) fun r8 M7 => bI (m_Mod_in (isb r8 48) 0 8 M7) fun r10 M9 => if r10 = 0 then (bI (m_Mod_wrongAt 1 (M9 100 9) M9) fun r12 M11 => grd (r12 = 0 ∨ r12 = 1) (some (some (pzI r12), M11))) else (grd (0 ≤ (isb r8 48) ∧ (isb r8 48) < 9) (if (M9 125 (((isb r8 48)).toNat)) = (12 : Int) then (bI (m_Mod_wrongAt 6 (M9 100 9) M9) fun r14 M13 => grd (r14 = 0 ∨ r14 = 1) (some (some (pzI r14), M13))) else (grd (0 ≤ (isb r8 48) ∧ (isb r8 48) < 9) (grd (0 ≤ (isb r8 48) ∧ (isb r8 48) < 9) (bM (pz_wr M9 125 (((isb r8 48)).toNat) (ia (M9 125 (((isb r8 48)).toNat)) 1)) fun M15 => grd (0 ≤ (M15 100 36) ∧ (M15 100 36) < 24) (bM (pz_wr M15 124 (((M15 100 36)).toNat) (isb r8 48)) fun M16 => bM (pz_wr M16 100 9 (ia (M16 100 9) 1)) fun M17 => m_Mod_readsCase_247 (pzI (isb r8 48)) M17))))))) else (m_Mod_readsCase_247 u1 M4)) M N ks (l + 1) e t := by
    intro M6 N6 q u w2 w3 u1 hX6 hu kx6 k6 hN6 ky6 n6
    refine (dk_tail hks hX6 hN6 ?_ w2 w3 u1).tr (kx5.tr kx6) (ky5.tr ky6)
    have vM : ∀ c i, c ≠ 29 → M6 c i = if c = ks + 3 ∧ i = l then u else if c = ks + 1 ∧ i = l then hr p e t - 97 else if c = ks + 2 ∧ i = l then v' else if c = ks + 4 ∧ i = l then 9 else M c i := by
      intro c i h
      rw [k6 c i (by omega), kM c i (by omega)]
      (repeat' split) <;> first | rfl | omega
    have vN : ∀ c i, (c ≠ 100 ∨ (i ≠ 9 ∧ i ≠ 11 ∧ i ≠ 12)) → N6 c i = if c = 123 ∧ i = l then u else if c = 124 ∧ i = l then -1 else if c = 121 ∧ i = l then hr p e t - 97 else if c = 122 ∧ i = l then v' else N c i := by
      intro c i h
      rw [n6 c i (by omega), kN c i h]
    refine ⟨?_, ?_, by omega, ?_, ?_, ?_, ?_, ?_⟩
    · rw [vM ks 5 (by omega), if_neg (by omega), if_neg (by omega), if_neg (by omega), if_neg (by omega)]; exact a1
    · rw [vN 100 36 (by omega), if_neg (by omega), if_neg (by omega), if_neg (by omega), if_neg (by omega)]; exact a2
    · intro c hc
      by_cases ec : c = l
      · have q1 : M6 (ks + 1) c = hr p e t - 97 := by rw [vM _ _ (by omega), if_neg (by omega), if_pos (by omega)]
        have q2 : M6 (ks + 2) c = v' := by rw [vM _ _ (by omega), if_neg (by omega), if_neg (by omega), if_pos (by omega)]
        have q3 : M6 (ks + 3) c = u := by rw [vM _ _ (by omega), if_pos (by omega)]
        have r1 : N6 121 c = hr p e t - 97 := by rw [vN _ _ (by omega), if_neg (by omega), if_neg (by omega), if_pos (by omega)]
        have r2 : N6 122 c = v' := by rw [vN _ _ (by omega), if_neg (by omega), if_neg (by omega), if_neg (by omega), if_pos (by omega)]
        have r3 : N6 123 c = u := by rw [vN _ _ (by omega), if_pos (by omega)]
        unfold cwD
        rw [q1, q2, q3, r1, r2, r3]
        exact ⟨rfl, by omega, by omega, rfl, by omega, by omega, rfl, by omega, by omega⟩
      · have q : ∀ k, k ≠ 29 → M6 k c = M k c := fun k hk => by rw [vM _ _ hk, if_neg (by omega), if_neg (by omega), if_neg (by omega), if_neg (by omega)]
        have r : ∀ k, k ≠ 100 → N6 k c = N k c := fun k hk => by rw [vN _ _ (by omega), if_neg (by omega), if_neg (by omega), if_neg (by omega), if_neg (by omega)]
        have := a4 c (by omega)
        unfold cwD at this ⊢
        rw [q (ks + 1) (by omega), q (ks + 2) (by omega), q (ks + 3) (by omega), r 121 (by omega), r 122 (by omega), r 123 (by omega)]
        exact this
    · intro c hc
      rw [vM (ks + 4) c (by omega), vN 124 c (by omega), if_neg (by omega), if_neg (by omega), if_neg (by omega), if_neg (by omega), if_neg (by omega), if_neg (by omega), if_neg (by omega), if_neg (by omega)]
      exact a5 c hc
    · rw [vM (ks + 4) l (by omega), if_neg (by omega), if_neg (by omega), if_neg (by omega), if_pos (by omega)]
    · rw [vN 124 l (by omega), if_neg (by omega), if_pos (by omega)]
    · intro z hz
      rw [vM (ks + 5) z (by omega), vN 125 z (by omega), if_neg (by omega), if_neg (by omega), if_neg (by omega), if_neg (by omega), if_neg (by omega), if_neg (by omega), if_neg (by omega), if_neg (by omega)]
      exact a6 z hz
  have e5 := hX5.2.2
  by_cases s : hr p' e t = 33
  · have hpe5 := hr_lt (show 0 ≤ hr p' e t by omega)
    rw [if_pos s, if_pos s, Tape_step hX5, bV_some, wr_cell (c := ks) (k := 29) (by omega), b1, grd_pos (by omega), bM_eq, show ((l : Nat) : Int).toNat = l from rfl, m_Mod_readsCase_115_eq, grd_pos (by omega), bM_eq, wr_cell (c := 100) (k := 123) (by omega), b2, grd_pos (by omega), wr_cell (c := 100) (k := 123) (by omega), hN5.1, show ((l : Nat) : Int).toNat = l from rfl, wr_same, ia_eq (by omega) (by omega), bM_eq, wr_idx (i := 9) (j := 36) (by omega), wr_cell (c := 100) (k := 123) (by omega), b2, grd_pos (by omega), bM_eq, show ((l : Nat) : Int).toNat = l from rfl]
    refine go _ _ (p' + 1) 1 _ _ _ ((hX5.st hpe5).wr (by omega) (by omega)) (by omega) ((((kX.rf M5).wr rfl).tod).wr (by omega)) ?_ (((hN5.wr (k := 123) (j := l) (x := 1) (by omega) (by omega)).st hpe5).wr (k := 124) (by omega) (by omega)) ((((kY.rf N5).wr rfl).wr rfl).wr rfl) ?_
    · intro c i h
      unfold pz_wr
      (repeat' split) <;> first | rfl | omega
    · intro c i h
      unfold pz_wr
      (repeat' split) <;> first | rfl | omega
  · rw [if_neg s, if_neg s, m_Mod_readsCase_115_eq, grd_pos (by omega), bM_eq, wr_cell (c := 100) (k := 123) (by omega), b2, grd_pos (by omega), wr_cell (c := 100) (k := 123) (by omega), hN5.1, show ((l : Nat) : Int).toNat = l from rfl, wr_same, ia_eq (by omega) (by omega), bM_eq, wr_idx (i := 9) (j := 36) (by omega), wr_cell (c := 100) (k := 123) (by omega), b2, grd_pos (by omega), bM_eq, show ((l : Nat) : Int).toNat = l from rfl]
    have m53 : M5 (ks + 3) l = 0 := by rw [kM (ks + 3) l (by omega), if_neg (by omega), if_neg (by omega), if_pos (by omega)]
    have hNz : txY (pz_wr (pz_wr N5 123 l 0) 100 9 ((p' : Int) + 0)) p' e t := by
      obtain ⟨y1, y2, y3, y4, y5⟩ := hN5
      refine ⟨by rw [wr_same]; omega, by rw [wr_idx (by omega), wr_cell (by omega)]; exact y2, y3, y4, fun i hi => ?_⟩
      rw [wr_cell (by omega), wr_cell (by omega)]
      exact y5 i hi
    refine go _ _ p' 0 _ _ _ hX5 (by omega) (kXd.rf ks M5) ?_ (hNz.wr (k := 124) (by omega) (by omega)) ((((kY.rf N5).wr rfl).wr rfl).wr rfl) ?_
    · intro c i h
      by_cases z : c = ks + 3 ∧ i = l
      · rw [if_pos z, z.1, z.2, m53]
      · rw [if_neg z]
    · intro c i h
      unfold pz_wr
      (repeat' split) <;> first | rfl | omega
