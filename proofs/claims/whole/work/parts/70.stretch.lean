/-! ===== picked up: the desk's row of places ===== -/
theorem ins_L {p d : Int} {W D : Nat → Int} {m : Nat} (hm : m < 11) (hs : ∀ i j, i ≤ j → j < m → W i ≤ W j) : ∀ (x : Nat) (M1 : pz_M), x ≤ m → (∀ i, i < x → M1 43 i = W i ∧ M1 44 i = D i) → (∀ i, x < i → i ≤ m → M1 43 i = W (i - 1) ∧ M1 44 i = D (i - 1)) → (∀ i, x ≤ i → i < m → p < W i) → M1 42 4 = m → ∃ a M', m_Path_insert_15 p d x M1 = some (none, M') ∧ a ≤ m ∧ (∀ i, i < a → W i ≤ p) ∧ (∀ i, a ≤ i → i < m → p ≤ W i) ∧ (∀ i, i < a → M' 43 i = W i ∧ M' 44 i = D i) ∧ M' 43 a = p ∧ M' 44 a = d ∧ (∀ i, a < i → i ≤ m → M' 43 i = W (i - 1) ∧ M' 44 i = D (i - 1)) ∧ M' 42 4 = ((m + 1 : Nat) : Int) ∧ ∀ c i, c ≠ 43 → c ≠ 44 → ¬ (c = 42 ∧ i = 4) → M' c i = M1 c i := by
  have fin : ∀ (x : Nat) (M1 : pz_M), x ≤ m → (∀ i, i < x → M1 43 i = W i ∧ M1 44 i = D i) → (∀ i, x < i → i ≤ m → M1 43 i = W (i - 1) ∧ M1 44 i = D (i - 1)) → (∀ i, x ≤ i → i < m → p < W i) → M1 42 4 = m → (∀ i, i < x → W i ≤ p) → ∃ a M', m_Path_insert_65 p d x M1 = some (none, M') ∧ a ≤ m ∧ (∀ i, i < a → W i ≤ p) ∧ (∀ i, a ≤ i → i < m → p ≤ W i) ∧ (∀ i, i < a → M' 43 i = W i ∧ M' 44 i = D i) ∧ M' 43 a = p ∧ M' 44 a = d ∧ (∀ i, a < i → i ≤ m → M' 43 i = W (i - 1) ∧ M' 44 i = D (i - 1)) ∧ M' 42 4 = ((m + 1 : Nat) : Int) ∧ ∀ c i, c ≠ 43 → c ≠ 44 → ¬ (c = 42 ∧ i = 4) → M' c i = M1 c i := by
    intro x M1 hx h1 h2 h3 h4 h5
    rw [m_Path_insert_65_eq, grd_pos (by omega), bM_eq, grd_pos (by omega), bM_eq, bM_eq, wr_cell (show (42 : Nat) ≠ 44 by decide), wr_cell (show (42 : Nat) ≠ 43 by decide), h4, ia_eq (by omega) (by omega), show ((x : Nat) : Int).toNat = x from rfl]
    refine ⟨x, _, rfl, hx, h5, fun i a b => Int.le_of_lt (h3 i a b), fun i hi => ?_, ?_, ?_, fun i a b => ?_, by rw [wr_same]; rfl, fun c i z1 z2 z3 => ?_⟩
    · rw [wr_cell (by decide), wr_cell (by decide), wr_idx (by omega), wr_cell (by decide), wr_idx (by omega), wr_cell (by decide)]; exact h1 i hi
    · rw [wr_cell (by decide), wr_cell (by decide), wr_same]
    · rw [wr_cell (by decide), wr_same]
    · rw [wr_cell (by decide), wr_cell (by decide), wr_idx (by omega), wr_cell (by decide), wr_idx (by omega), wr_cell (by decide)]; exact h2 i a b
    · unfold pz_wr
      rw [if_neg z3, if_neg (by omega), if_neg (by omega)]
  intro x
  induction x with
  | zero =>
    intro M1 hx h1 h2 h3 h4
    rw [m_Path_insert_15_eq, if_neg (show ¬ (0 : Int) < ((0 : Nat) : Int) by decide)]
    exact fin 0 M1 hx h1 h2 h3 h4 (fun i hi => by omega)
  | succ x ih =>
    intro M1 hx h1 h2 h3 h4
    have h1x := h1 x (by omega)
    rw [m_Path_insert_15_eq, if_pos (show (0 : Int) < ((x + 1 : Nat) : Int) by omega), isb_eq (by omega) (by omega), grd_pos (by omega), show (((x + 1 : Nat) : Int) - 1).toNat = x by omega, h1x.1]
    by_cases c : p < W x
    · rw [if_pos c, grd_pos (by omega), grd_pos (by omega), bM_eq, grd_pos (by omega), grd_pos (by omega), bM_eq, wr_cell (show (44 : Nat) ≠ 43 by decide), h1x.2, ia_eq (by omega) (by omega), show (((x + 1 : Nat) : Int)).toNat = x + 1 from rfl, show ((x + 1 : Nat) : Int) + -1 = (x : Int) by omega]
      obtain ⟨a, M', g1, g2, g3, g4, g5, g6, g7, g8, g9, g10⟩ := ih (pz_wr (pz_wr M1 43 (x + 1) (W x)) 44 (x + 1) (D x)) (by omega) (fun i hi => by
        rw [wr_cell (show (43 : Nat) ≠ 44 by decide), wr_idx (by omega), wr_idx (by omega), wr_cell (show (44 : Nat) ≠ 43 by decide)]; exact h1 i (by omega)) (fun i a b => by
        rw [wr_cell (show (43 : Nat) ≠ 44 by decide), wr_at, wr_at, wr_cell (show (44 : Nat) ≠ 43 by decide)]
        by_cases e : i = x + 1
        · rw [if_pos e, if_pos e, e]; exact ⟨rfl, rfl⟩
        · rw [if_neg e, if_neg e]; exact h2 i (by omega) b) (fun i a b => by
        by_cases e : i = x
        · rw [e]; exact c
        · exact h3 i (by omega) b) (by rw [wr_cell (by decide), wr_cell (by decide)]; exact h4)
      exact ⟨a, M', g1, g2, g3, g4, g5, g6, g7, g8, g9, fun c' i z1 z2 z3 => by rw [g10 c' i z1 z2 z3, wr_cell z2, wr_cell z1]⟩
    · rw [if_neg c]
      exact fin (x + 1) M1 hx h1 h2 h3 h4 (fun i hi => by
        have := hs i x (by omega) (by omega)
        omega)
theorem fea_ins {W D W' D' : Nat → Int} {g : Nat → Nat} {s k a : Nat} {w dl : Nat → Int} {f : Int} (h : fea W D g s k w dl f) (ha : a ≤ k + 1) (h1 : ∀ i, i < a → W' i = W i ∧ D' i = D i) (h2 : W' a = w k) (h2' : D' a = dl k) (h3 : ∀ i, a < i → i ≤ k + 1 → W' i = W (i - 1) ∧ D' i = D (i - 1)) (hlo : ∀ i, i < a → W i ≤ w k) (hhi : ∀ i, a ≤ i → i < k + 1 → w k ≤ W i) : ∃ g' s', fea W' D' g' s' (k + 1) w dl f ∧ D' s' = D s ∧ ∀ i, i < k + 2 → i ≠ s' → i = a ∨ ∃ j, j < k + 1 ∧ j ≠ s ∧ D' i = D j := by
  obtain ⟨f1, f2, f3, f4, f5, f6⟩ := h
  obtain ⟨g', G1, G2, G3⟩ : ∃ g' : Nat → Nat, (∀ i, i < a → g' i = g i) ∧ g' a = k ∧ ∀ i, a < i → g' i = g (i - 1) := ⟨fun i => if i < a then g i else if i = a then k else g (i - 1), fun i hi => if_pos hi, by show (if a < a then _ else if a = a then k else _) = k; rw [if_neg (by omega), if_pos rfl], fun i hi => by show (if i < a then _ else if i = a then k else g (i - 1)) = _; rw [if_neg (by omega), if_neg (by omega)]⟩
  obtain ⟨s', S1, S2⟩ : ∃ s', (s < a → s' = s) ∧ (a ≤ s → s' = s + 1) := ⟨if s < a then s else s + 1, fun z => if_pos z, fun z => if_neg (by omega)⟩
  have hss : (s < a ∧ s' = s) ∨ (a ≤ s ∧ s' = s + 1) := by
    by_cases c : s < a
    · exact Or.inl ⟨c, S1 c⟩
    · exact Or.inr ⟨by omega, S2 (by omega)⟩
  have hs' : s' < k + 2 ∧ s' ≠ a ∧ W' s' = f ∧ D' s' = D s := by
    by_cases c : s < a
    · rw [S1 c]; exact ⟨by omega, by omega, by rw [(h1 s c).1]; exact f2, (h1 s c).2⟩
    · rw [S2 (by omega)]
      have := h3 (s + 1) (by omega) (by omega)
      rw [show s + 1 - 1 = s by omega] at this
      exact ⟨by omega, by omega, by rw [this.1]; exact f2, this.2⟩
  have old : ∀ i, i < k + 2 → i ≠ a → ∃ j, j < k + 1 ∧ W' i = W j ∧ D' i = D j ∧ g' i = g j ∧ (i = s' ↔ j = s) ∧ (i < a → j = i) ∧ (a < i → j + 1 = i) := by
    intro i hi hne
    by_cases c : i < a
    · exact ⟨i, by omega, (h1 i c).1, (h1 i c).2, G1 i c, by omega, fun _ => rfl, fun z => by omega⟩
    · have := h3 i (by omega) (by omega)
      exact ⟨i - 1, by omega, this.1, this.2, G3 i (by omega), by omega, fun z => by omega, fun z => by omega⟩
  refine ⟨g', s', ⟨by omega, hs'.2.2.1, fun i j hij hj => ?_, fun i hi hne => ?_, fun i j hi hj hi' hj' e => ?_, fun q hq => ?_⟩, hs'.2.2.2, fun i hi hne => ?_⟩
  · by_cases ei : i = a
    · by_cases ej : j = a
      · rw [ei, ej]; exact Int.le_refl _
      · obtain ⟨j', j1, j2, j3, j4, j5, j6, j7⟩ := old j (by omega) ej
        rw [ei, h2, j2]
        exact hhi j' (by have := j7 (by omega); omega) j1
    · obtain ⟨i', i1, i2, i3, i4, i5, i6, i7⟩ := old i (by omega) ei
      by_cases ej : j = a
      · rw [ej, h2, i2]
        have := i6 (by omega)
        exact hlo i' (by omega)
      · obtain ⟨j', j1, j2, j3, j4, j5, j6, j7⟩ := old j (by omega) ej
        rw [i2, j2]
        exact f3 i' j' (by
          by_cases c1 : i < a
          · have := i6 c1
            by_cases c2 : j < a
            · have := j6 c2; omega
            · have := j7 (by omega); omega
          · have := i7 (by omega)
            have := j7 (by omega)
            omega) j1
  · by_cases ei : i = a
    · rw [ei, G2]; exact ⟨by omega, h2, h2'⟩
    · obtain ⟨i', i1, i2, i3, i4, i5, i6, i7⟩ := old i (by omega) ei
      obtain ⟨q1, q2, q3⟩ := f4 i' i1 (fun z => hne (i5.mpr z))
      rw [i4, i2, i3]
      exact ⟨by omega, q2, q3⟩
  · by_cases ei : i = a
    · by_cases ej : j = a
      · omega
      · obtain ⟨j', j1, j2, j3, j4, j5, j6, j7⟩ := old j (by omega) ej
        have := (f4 j' j1 (fun z => hj' (j5.mpr z))).1
        rw [ei, G2, j4] at e
        omega
    · obtain ⟨i', i1, i2, i3, i4, i5, i6, i7⟩ := old i (by omega) ei
      by_cases ej : j = a
      · have := (f4 i' i1 (fun z => hi' (i5.mpr z))).1
        rw [ej, G2, i4] at e
        omega
      · obtain ⟨j', j1, j2, j3, j4, j5, j6, j7⟩ := old j (by omega) ej
        rw [i4, j4] at e
        have := f5 i' j' i1 j1 (fun z => hi' (i5.mpr z)) (fun z => hj' (j5.mpr z)) e
        by_cases c1 : i < a
        · have := i6 c1
          by_cases c2 : j < a
          · have := j6 c2; omega
          · have := j7 (by omega); omega
        · have := i7 (by omega)
          by_cases c2 : j < a
          · have := j6 c2; omega
          · have := j7 (by omega); omega
  · by_cases eq : q = k
    · exact ⟨a, by omega, fun z => hs'.2.1 z.symm, by rw [G2, eq]⟩
    · obtain ⟨j, j1, j2, j3⟩ := f6 q (by omega)
      by_cases c : j < a
      · exact ⟨j, by omega, fun z => by
          by_cases q : s < a
          · rw [S1 q] at z; exact j2 z
          · rw [S2 (by omega)] at z; omega, by rw [G1 j c]; exact j3⟩
      · exact ⟨j + 1, by omega, fun z => by
          by_cases q : s < a
          · rw [S1 q] at z; omega
          · rw [S2 (by omega)] at z; omega, by rw [G3 (j + 1) (by omega), show j + 1 - 1 = j by omega]; exact j3⟩
  · by_cases ei : i = a
    · exact Or.inl ei
    · obtain ⟨i', i1, i2, i3, i4, i5, i6, i7⟩ := old i hi ei
      exact Or.inr ⟨i', i1, fun z => hne (i5.mpr z), i3⟩
/-- the row of places is made -/
theorem load_L {t : Nat → Int} {f : Int} {n : Nat} (hn : n ≤ 10) {w3 : pz_V} (ht : ∀ i, i < 260 → 0 ≤ t i ∧ t i ≤ 255) : ∀ (j k : Nat) (M : pz_M) (g : Nat → Nat) (s : Nat), k + j = n → M 29 3 = ((2 * n : Nat) : Int) → (∀ i, i < 260 → M 30 i = t i) → M 42 4 = ((k + 1 : Nat) : Int) → fea (M 43) (M 44) g s k (wT t) (dT t) f → M 44 s = -1 → (∀ i, i < k + 1 → i ≠ s → 0 ≤ M 44 i) → ∃ (M' : pz_M) (g' : Nat → Nat) (s' : Nat), m_Path_load_14 n w3 k M = some (none, M') ∧ M' 42 4 = ((n + 1 : Nat) : Int) ∧ fea (M' 43) (M' 44) g' s' n (wT t) (dT t) f ∧ M' 44 s' = -1 ∧ (∀ i, i < n + 1 → i ≠ s' → 0 ≤ M' 44 i) ∧ ∀ c i, c ≠ 43 → c ≠ 44 → ¬ (c = 42 ∧ i = 4) → M' c i = M c i := by
  intro j
  induction j with
  | zero =>
    intro k M g s hk h3 hb h4 hf hs hd
    have e : k = n := by omega
    subst e
    rw [m_Path_load_14_eq, if_neg (show ¬ (k : Int) < (k : Int) by omega)]
    exact ⟨M, g, s, rfl, h4, hf, hs, hd, fun _ _ _ _ _ => rfl⟩
  | succ j ih =>
    intro k M g s hk h3 hb h4 hf hs hd
    have b1 : m_Tape_byteAt ((2 * k : Nat) : Int) M = some (some (pzI (t (2 * k))), M) := by
      rw [Tape_byteAt (by omega) (by rw [h3]; omega) (by omega), show (((2 * k : Nat) : Int)).toNat = 2 * k from rfl, hb _ (by omega)]
    have b2 : m_Tape_byteAt ((2 * k + 1 : Nat) : Int) M = some (some (pzI (t (2 * k + 1))), M) := by
      rw [Tape_byteAt (by omega) (by rw [h3]; omega) (by omega), show (((2 * k + 1 : Nat) : Int)).toNat = 2 * k + 1 from rfl, hb _ (by omega)]
    rw [m_Path_load_14_eq, if_pos (show (k : Int) < (n : Int) by omega), imu_eq (by omega) (by omega), ia_eq (x := 2 * (k : Int)) (by omega) (by omega), show 2 * (k : Int) + 1 = ((2 * k + 1 : Nat) : Int) by omega, show 2 * (k : Int) = ((2 * k : Nat) : Int) by omega, b1, bI_some, b2, bI_some, m_Path_insert_eq, h4, if_pos (show ((k + 1 : Nat) : Int) < 11 by omega), ia_eq (x := (k : Int)) (by omega) (by omega)]
    obtain ⟨a, M1, g1, g2, g3, g4, g5, g6, g7, g8, g9, g10⟩ := ins_L (p := t (2 * k)) (d := t (2 * k + 1)) (W := M 43) (D := M 44) (m := k + 1) (by omega) (fun i j a b => hf.2.2.1 i j a b) (k + 1) M (Nat.le_refl _) (fun i _ => ⟨rfl, rfl⟩) (fun i a b => by omega) (fun i a b => by omega) h4
    obtain ⟨g', s', e1, e2, e3⟩ := fea_ins (W' := M1 43) (D' := M1 44) hf (by omega) g5 g6 g7 (fun i a b => g8 i a b) g3 g4
    have tk := ht (2 * k + 1) (by omega)
    rw [g1, bV_some]
    obtain ⟨M2, g2', s2, c1, c2, c3, c4, c5, c6⟩ := ih (k + 1) M1 g' s' (by omega) (by rw [g10 29 3 (by decide) (by decide) (by decide)]; exact h3) (fun i hi => by rw [g10 30 i (by decide) (by decide) (by omega)]; exact hb i hi) g9 e1 (by rw [e2]; exact hs) (fun i hi hne => by
      rcases e3 i hi hne with z | ⟨j, j1, j2, j3⟩
      · rw [z, g7]; omega
      · rw [j3]; exact hd j j1 j2)
    exact ⟨M2, g2', s2, c1, c2, c3, c4, c5, fun c i z1 z2 z3 => by rw [c6 c i z1 z2 z3, g10 c i z1 z2 z3]⟩
theorem load_ok {t : Nat → Int} {f : Int} {n : Nat} {M : pz_M} (hn : n ≤ 10) (ht : ∀ i, i < 260 → 0 ≤ t i ∧ t i ≤ 255) (h3 : M 29 3 = ((2 * n : Nat) : Int)) (hb : ∀ i, i < 260 → M 30 i = t i) : ∃ (M' : pz_M) (g : Nat → Nat) (s : Nat), m_Path_load n f M = some (none, M') ∧ M' 42 4 = ((n + 1 : Nat) : Int) ∧ fea (M' 43) (M' 44) g s n (wT t) (dT t) f ∧ M' 44 s = -1 ∧ (∀ i, i < n + 1 → i ≠ s → 0 ≤ M' 44 i) ∧ ∀ c i, c ≠ 43 → c ≠ 44 → ¬ (c = 42 ∧ i = 4) → M' c i = M c i := by
  rw [m_Path_load_eq, bM_eq, m_Path_insert_eq, wr_same, if_pos (by decide)]
  obtain ⟨a, M1, g1, g2, g3, g4, g5, g6, g7, g8, g9, g10⟩ := ins_L (p := f) (d := -1) (W := M 43) (D := M 44) (m := 0) (by omega) (fun i j a b => by omega) 0 (pz_wr M 42 4 0) (Nat.le_refl _) (fun i hi => by omega) (fun i a b => by omega) (fun i a b => by omega) (by rw [wr_same]; rfl)
  have ea : a = 0 := by omega
  subst ea
  have g1' : m_Path_insert_15 f (-1) 0 (pz_wr M 42 4 0) = some (none, M1) := g1
  rw [g1', bV_some]
  have o : ∀ c i, c ≠ 43 → c ≠ 44 → ¬ (c = 42 ∧ i = 4) → M1 c i = M c i := fun c i z1 z2 z3 => by
    rw [g10 c i z1 z2 z3]
    unfold pz_wr
    rw [if_neg z3]
  obtain ⟨M2, g', s', c1, c2, c3, c4, c5, c6⟩ := load_L (t := t) (f := f) (w3 := pzI f) hn ht n 0 M1 (fun _ => 0) 0 (by omega) (by rw [o 29 3 (by decide) (by decide) (by decide)]; exact h3) (fun i hi => by rw [o 30 i (by decide) (by decide) (by omega)]; exact hb i hi) g9 ⟨by omega, g6, fun i j a b => by rw [show i = j by omega]; exact Int.le_refl _, fun i hi hne => absurd (show i = 0 by omega) hne, fun i j hi hj hne _ _ => absurd (show i = 0 by omega) hne, fun k hk => by omega⟩ g7 (fun i hi hne => absurd (show i = 0 by omega) hne)
  exact ⟨M2, g', s', c1, c2, c3, c4, c5, fun c i z1 z2 z3 => by rw [c6 c i z1 z2 z3, o c i z1 z2 z3]⟩
