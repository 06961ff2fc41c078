theorem Sh_least {M N : pz_M} {m k : Nat} (hl : lay M N m) (k1 : 1 ≤ k) (k4 : k ≤ 4) : ∃ (M' : pz_M) (V : Int), m_Sharing_leastGreatest k M = some (some (pzI V), M') ∧ kX M M' ∧ (∃ c : Nat → Nat, (∀ i, c i < k) ∧ ∀ h, h < k → ld (M 36) c h 0 m ≤ V) ∧ (∀ (v : Int) (c : Nat → Nat), 0 ≤ v → (∀ i, c i < k) → (∀ h, h < k → ld (M 36) c h 0 m ≤ v) → V ≤ v) ∧ 0 ≤ V := by
  obtain ⟨l1, l2, l3, l4⟩ := hl
  have L : ∀ (j x : Nat), x + j = m → m_Sharing_leastGreatest_4 k (ld (M 36) (fun _ => 0) 0 0 x) x M = m_Sharing_leastGreatest_4 k (ld (M 36) (fun _ => 0) 0 0 m) m M := by
    intro j
    induction j with
    | zero =>
      intro x hj
      have e : x = m := by omega
      subst e
      rfl
    | succ j ih =>
      intro x hj
      have hx := l3 x (by omega)
      have b0 := ld_nn (w := M 36) (c := fun _ => 0) (h := 0) x 0 (fun y _ h2 => (l3 y (by omega)).1)
      have b1 := ld_le (w := M 36) (c := fun _ => 0) (h := 0) (B := 99) (by omega) x 0 (fun y _ h2 => (l3 y (by omega)).2)
      rw [m_Sharing_leastGreatest_4_eq, l1, if_pos (show (x : Int) < m by omega), grd_pos (by omega), show ((x : Nat) : Int).toNat = x from rfl, ia_eq (x := (x : Int)) (by omega) (by omega), ia_eq (by omega) (by omega), ← ih (x + 1) (by omega), ld_snoc, if_pos rfl, Nat.zero_add]
      rfl
  have b0 := ld_nn (w := M 36) (c := fun _ => 0) (h := 0) m 0 (fun y _ h2 => (l3 y (by omega)).1)
  have b1 := ld_le (w := M 36) (c := fun _ => 0) (h := 0) (B := 99) (by omega) m 0 (fun y _ h2 => (l3 y (by omega)).2)
  have L0 : m_Sharing_leastGreatest_4 k 0 0 M = m_Sharing_leastGreatest_4 k (ld (M 36) (fun _ => 0) 0 0 m) m M := L m 0 (by omega)
  rw [m_Sharing_leastGreatest_eq, L0, m_Sharing_leastGreatest_4_eq, l1, if_neg (show ¬ (m : Int) < m by omega), bM_eq, bM_eq]
  obtain ⟨M2, f1, f2, f3⟩ := Arrays_fill (M := pz_wr (pz_wr M 35 3 (k : Int)) 35 4 (ld (M 36) (fun _ => 0) 0 0 m)) (k := 37) rfl (by decide) 0
  have f2' : ∀ i, i < 4 → M2 37 i = 0 := f2
  have f3' : ∀ c i, c ≠ 37 → M2 c i = pz_wr (pz_wr M 35 3 (k : Int)) 35 4 (ld (M 36) (fun _ => 0) 0 0 m) c i := fun c i z => f3 c i (fun q => z q.1)
  have r36 : ∀ i, M2 36 i = M 36 i := fun i => by rw [f3' 36 i (by decide), wr_cell (by decide), wr_cell (by decide)]
  rw [f1, bV_some]
  obtain ⟨M3, B, p1, p2, p3, p4, p5, p6, p7⟩ := Sh_out (m := m) (k := k) (w := M 36) l2 k1 k4 l3 m 0 29 M2 0 (ld (M 36) (fun _ => 0) 0 0 m) (by omega) (by omega) (by rw [f3' 35 2 (by decide), wr_idx (by decide), wr_idx (by decide)]; exact l1) (by rw [f3' 35 3 (by decide), wr_idx (by decide), wr_same]) (by rw [f3' 35 4 (by decide), wr_same]) (fun i _ => r36 i) (by omega) b0 (by omega) (fun h hh => by rw [f2' h (by omega)]; omega) (Or.inl rfl) (fun h h' _ hh _ => f2' h' (by omega))
  have p1' : m_Sharing_shareOut 29 0 0 M2 = some (none, M3) := p1
  rw [p1', bV_some, p2]
  refine ⟨M3, B, rfl, ?_, ?_, fun v c v0 hc hv => p7 v c v0 hc (fun h hh => by rw [f2' h (by omega), Int.zero_add]; exact hv h hh), p4⟩
  · intro c i z
    have z35 : c ≠ 35 := by intro y; rw [y] at z; exact Bool.noConfusion z
    have z37 : c ≠ 37 := by intro y; rw [y] at z; exact Bool.noConfusion z
    rw [p3 c i (fun y => z35 y.1), f3' c i z37, wr_cell z35, wr_cell z35]
  · rcases p6 with e | ⟨c, hc, hv⟩
    · refine ⟨fun _ => 0, fun _ => (show (0 : Nat) < k by omega), fun h hh => ?_⟩
      by_cases q : h = 0
      · rw [q, e]; exact Int.le_refl _
      · rw [ld_0 (fun x y => absurd y.symm q) m 0]; exact p4
    · refine ⟨c, hc, fun h hh => ?_⟩
      have := hv h hh
      rw [f2' h (by omega), Int.zero_add] at this
      exact this
theorem ag_fair {M N : pz_M} (h : rl M N) (k : Int) : agree (m_Desk_fair k M) (m_Mod_fair k N) := by
  rw [m_Desk_fair_eq, m_Mod_fair_eq, Mod_in, bI_some, b01_ite]
  by_cases hk : 1 ≤ k ∧ k ≤ 4
  rotate_left
  · rw [if_neg hk]
    by_cases h1 : k < 1
    · rw [if_pos h1]; exact agree_same h _ rfl rfl
    · rw [if_neg h1, if_pos (show 4 < k by omega)]; exact agree_same h _ rfl rfl
  rw [if_pos hk, if_neg (show ¬ k < 1 by omega), if_neg (show ¬ 4 < k by omega), m_Sharing_clear_eq, bM_eq, bV_some, bM_eq, m_Mod_laysSums_eq]
  obtain ⟨q, eq⟩ : ∃ q : Nat, k = q := ⟨k.toNat, by omega⟩
  subst eq
  have kx : kX M (pz_wr M 35 2 0) := (kX.rf M).wr rfl
  have ky : kY N (pz_wr N 126 0 0) := (kY.rf N).wr rfl
  have h2 := rl_keep h kx ky
  have hl : lay (pz_wr M 35 2 0) (pz_wr N 126 0 0) 0 := by
    refine ⟨wr_same, by omega, fun i hi => by omega, fun T hT => ?_⟩
    have e : T = 0 := by
      rw [Nat.pow_zero] at hT
      omega
    rw [e, wr_same]
    rfl
  generalize pz_wr M 35 2 0 = M1 at h2 hl
  generalize pz_wr N 126 0 0 = N1 at h2 hl
  have h2' := h2
  obtain ⟨hT, ⟨kc, n, hc, ht, _⟩, _⟩ := h2'
  rcases fair_lay (k := (q : Int)) n 0 0 M1 N1 pzN (by omega) hc ht hl with ⟨M', N', p1, p2, p3, p4⟩ | ⟨M', N', m, p1, p2, p3, p4, p5⟩
  · have p1' : m_Desk_fair_21 (q : Int) 0 M1 = some (some (pzI (-4)), M') := p1
    have p2' : m_Mod_laysSums_4 0 0 pzN N1 = some (some (pzI (-1)), N') := p2
    rw [p1', p2', bI_some, if_pos rfl]
    exact ⟨-4, M', N', rfl, rfl, rl_keep h2 p3 p4⟩
  · have p1' : m_Desk_fair_21 (q : Int) 0 M1 = (bI (m_Sharing_leastGreatest (q : Int) M') fun r4 M3 => some (some (pzI r4), M3)) := p1
    have p2' : m_Mod_laysSums_4 0 0 pzN N1 = some (some (pzI (m : Int)), N') := p2
    obtain ⟨M3, V, s1, s2, s3, s4, s5⟩ := Sh_least p3 (k := q) (by omega) (by omega)
    have hw0 : ∀ i, i < m → 0 ≤ M' 36 i := fun i hi => (p3.2.2.1 i hi).1
    obtain ⟨N3, W, t1, t2, t3⟩ := Mod_fair33 (w := M' 36) (m := m) (k := q) p3.2.1 (by omega) (by omega) hw0 (2 ^ m) 0 N' pzN pzN (by omega) p3.2.2.2 (fun X hX => by omega)
    have t1' : m_Mod_fair_33 (q : Int) (m : Int) 0 pzN pzN N' = some (some (pzI W), N3) := t1
    rw [p1', s1, bI_some, p2', bI_some, if_neg (show ¬ (m : Int) = -1 by omega), t1']
    have el : ∀ (c : Nat → Nat) (h : Nat), ld (wS (M' 36) (2 ^ m - 1)) c h 0 m = ld (M' 36) c h 0 m := by
      intro c h
      apply ld_ext
      intro x _ hx
      unfold wS
      rw [full_bit (by omega), if_pos rfl]
    have e1 : V ≤ W := by
      obtain ⟨w0, ⟨c, hc, hv⟩, _⟩ := t2
      exact s4 W c w0 hc (fun h hh => by rw [← el]; exact hv h hh)
    have e2 : W ≤ V := by
      obtain ⟨c, hc, hv⟩ := s3
      exact t2.2.2 V c s5 hc (fun h hh => by rw [el]; exact hv h hh)
    rw [show W = V by omega]
    exact ⟨V, M3, N3, rfl, rfl, rl_keep h2 (p4.tr s2) (p5.tr (fun c i z => t3 c i (by intro y; rw [y] at z; exact Bool.noConfusion z)))⟩
