theorem ld_snoc {w : Nat → Int} {c : Nat → Nat} {h : Nat} : ∀ (j i : Nat), ld w c h i (j + 1) = ld w c h i j + (if c (i + j) = h then w (i + j) else 0) := by
  intro j
  induction j with
  | zero =>
    intro i
    show (if c i = h then w i else 0) + 0 = 0 + _
    rw [Nat.add_zero]
    omega
  | succ j ih =>
    intro i
    show (if c i = h then w i else 0) + ld w c h (i + 1) (j + 1) = (if c i = h then w i else 0) + ld w c h (i + 1) j + _
    rw [ih (i + 1), show i + 1 + j = i + (j + 1) by omega]
    omega
theorem ld_le {w : Nat → Int} {c : Nat → Nat} {h : Nat} {B : Int} (hB : 0 ≤ B) : ∀ (j i : Nat), (∀ x, i ≤ x → x < i + j → w x ≤ B) → ld w c h i j ≤ B * j := by
  intro j
  induction j with
  | zero => intro i _; show (0 : Int) ≤ _; rw [show ((0 : Nat) : Int) = 0 from rfl, Int.mul_zero]; exact Int.le_refl _
  | succ j ih =>
    intro i hh
    have h1 := ih (i + 1) (fun x h1 h2 => hh x (by omega) (by omega))
    have h2 := hh i (by omega) (by omega)
    show (if c i = h then w i else 0) + ld w c h (i + 1) j ≤ B * ((j + 1 : Nat) : Int)
    rw [show ((j + 1 : Nat) : Int) = (j : Int) + 1 from rfl, Int.mul_add, Int.mul_one]
    split <;> omega
theorem sS_rg {w : Nat → Int} {m : Nat} (hm : m ≤ 10) (hw : ∀ i, i < m → 0 ≤ w i ∧ w i ≤ 99) (T : Nat) : 0 ≤ sS w m T ∧ sS w m T ≤ 990 := by
  refine ⟨sS_nn (fun i hi => (hw i hi).1) T, ?_⟩
  have := ld_le (w := wS w T) (c := fun _ => 0) (h := 0) (B := 99) (by omega) m 0 (fun x _ h2 => by
    have := hw x (by omega)
    unfold wS
    split <;> omega)
  unfold sS
  omega
theorem sS_congr {w w' : Nat → Int} {m T T' : Nat} (h : ∀ i, i < m → w i = w' i ∧ T.testBit i = T'.testBit i) : sS w m T = sS w' m T' := by
  unfold sS
  apply ld_ext
  intro x _ h2
  have := h x (by omega)
  unfold wS
  rw [this.1, this.2]
theorem sS_snoc (w : Nat → Int) (m T : Nat) : sS w (m + 1) T = sS w m T + (if T.testBit m then w m else 0) := by
  unfold sS
  rw [ld_snoc, if_pos rfl, Nat.zero_add]
  rfl
theorem bit_add {T m i : Nat} (hT : T < 2 ^ m) : (T + 2 ^ m).testBit i = (T.testBit i || decide (m = i)) := by
  have e : 2 ^ m * 1 + T = 2 ^ m * 1 ||| T := Nat.two_pow_add_eq_or_of_lt hT 1
  rw [Nat.mul_one] at e
  rw [Nat.add_comm, e, Nat.testBit_or, Nat.testBit_two_pow, Bool.or_comm]
theorem or_add {T m : Nat} (hT : T < 2 ^ m) : T ||| 2 ^ m = T + 2 ^ m := by
  have e : 2 ^ m * 1 + T = 2 ^ m * 1 ||| T := Nat.two_pow_add_eq_or_of_lt hT 1
  rw [Nat.mul_one] at e
  rw [Nat.add_comm, e, Nat.or_comm]
theorem Mod_lay33 {m x : Nat} {wn : Int} {old : Nat → Int} (hm : m < 10) (hx : x < 24) (h0 : 0 ≤ wn) (h9 : wn ≤ 99) (ho : ∀ T, T < 2 ^ m → 0 ≤ old T ∧ old T ≤ 990) : ∀ (j y : Nat) (N : pz_M), y + j = 2 ^ m → N 105 x = wn → (∀ T, T < 2 ^ m → N 126 T = old T) → (∀ T, T < y → N 126 (T + 2 ^ m) = old T + wn) → ∃ (N' : pz_M) (u : pz_V), m_Mod_laysSums_33 m x y N = m_Mod_laysSums_4 ((m : Int) + 1) ((x : Int) + 1) u N' ∧ (∀ T, T < 2 ^ m → N' 126 T = old T ∧ N' 126 (T + 2 ^ m) = old T + wn) ∧ ∀ c i, c ≠ 126 → N' c i = N c i := by
  have h512 : 2 ^ m ≤ 512 := show 2 ^ m ≤ 2 ^ 9 from Nat.pow_le_pow_right (by omega) (by omega)
  intro j
  induction j with
  | zero =>
    intro y N hj h1 h2 h3
    refine ⟨N, pzI y, ?_, fun T hT => ⟨h2 T hT, h3 T (by omega)⟩, fun _ _ _ => rfl⟩
    rw [m_Mod_laysSums_33_eq, ihl_1 (by omega), if_neg (show ¬ (y : Int) < ((2 ^ m : Nat) : Int) by omega), ia_eq (by omega) (by omega), ia_eq (by omega) (by omega)]
  | succ j ih =>
    intro y N hj h1 h2 h3
    have hoy := ho y (by omega)
    rw [m_Mod_laysSums_33_eq, ihl_1 (by omega), if_pos (show (y : Int) < ((2 ^ m : Nat) : Int) by omega), iro_nat (by omega) (by omega), or_add (by omega), grd_pos (by omega), grd_pos (by omega), grd_pos (by omega), bM_eq, show ((y : Nat) : Int).toNat = y from rfl, show ((x : Nat) : Int).toNat = x from rfl, show ((y + 2 ^ m : Nat) : Int).toNat = y + 2 ^ m from rfl, h2 y (by omega), h1, ia_eq (x := old y) (by omega) (by omega), ia_eq (by omega) (by omega)]
    obtain ⟨N', u, g1, g2, g3⟩ := ih (y + 1) (pz_wr N 126 (y + 2 ^ m) (old y + wn)) (by omega) (by rw [wr_cell (by decide)]; exact h1) (fun T hT => by rw [wr_idx (by omega)]; exact h2 T hT) (fun T hT => by
      rw [wr_at]
      by_cases e : T = y
      · rw [if_pos (by omega), e]
      · rw [if_neg (by omega)]; exact h3 T (by omega))
    exact ⟨N', u, g1, g2, fun c i z => by rw [g3 c i z, wr_cell z]⟩
def lay (M N : pz_M) (m : Nat) : Prop := M 35 2 = m ∧ m ≤ 10 ∧ (∀ i, i < m → 0 ≤ M 36 i ∧ M 36 i ≤ 99) ∧ ∀ T, T < 2 ^ m → N 126 T = sS (M 36) m T
theorem fair_lay {k : Int} {kc n : Nat} : ∀ (j x m : Nat) (M N : pz_M) (w3 : pz_V), x + j = n → rl_cases M N kc n → rl_ter M N 49 101 n → lay M N m →
    (∃ M' N', m_Desk_fair_21 k x M = some (some (pzI (-4)), M') ∧ m_Mod_laysSums_4 m x w3 N = some (some (pzI (-1)), N') ∧ kX M M' ∧ kY N N') ∨
    (∃ M' N' m', m_Desk_fair_21 k x M = (bI (m_Sharing_leastGreatest k M') fun r4 M3 => some (some (pzI r4), M3)) ∧ m_Mod_laysSums_4 m x w3 N = some (some (pzI (m' : Nat)), N') ∧ lay M' N' m' ∧ kX M M' ∧ kY N N') := by
  intro j
  induction j with
  | zero =>
    intro x m M N w3 hj hc ht hl
    obtain ⟨c0, c1, c2, c3, c4, c5, c6, c7⟩ := hc
    right
    refine ⟨M, N, m, ?_, ?_, hl, kX.rf M, kY.rf N⟩
    · rw [m_Desk_fair_21_eq, c3, if_neg (show ¬ (x : Int) < n by omega)]
    · rw [m_Mod_laysSums_4_eq, c4, if_neg (show ¬ (x : Int) < n by omega)]
  | succ j ih =>
    intro x m M N w3 hj hc ht hl
    have hc' := hc
    obtain ⟨c0, c1, c2, c3, c4, c5, c6, c7⟩ := hc'
    have hl' := hl
    obtain ⟨l1, l2, l3, l4⟩ := hl'
    have hpl := pl_10 (ht.1 x (by omega)).1
    have e50 : (49 + 1 : Nat) = 50 := rfl
    rw [e50] at hpl
    have hcx := c7 x (by omega)
    rw [m_Desk_fair_21_eq, c3, if_pos (show (x : Int) < n by omega), grd_pos (by omega), show ((x : Nat) : Int).toNat = x from rfl, m_Mod_laysSums_4_eq, c4, if_pos (show (x : Int) < n by omega), Mod_isLeft c4 c5, bI_some, b01_ite, show ((x : Nat) : Int).toNat = x from rfl]
    by_cases d : M 50 x = 10
    · rw [if_pos d, if_neg (show ¬ (0 ≤ (x : Int) ∧ (x : Int) < n ∧ N 101 x ≠ 2) from fun z => z.2.2 (hpl.mp d)), ia_eq (by omega) (by omega)]
      exact ih (x + 1) m M N w3 (by omega) hc ht hl
    · have hr := dk_row c0
      rw [if_neg d, if_pos (show (0 ≤ (x : Int) ∧ (x : Int) < n ∧ N 101 x ≠ 2) from ⟨by omega, by omega, fun z => d (hpl.mpr z)⟩), dk_nat c1, grd_pos (dk_cls c0), hr.2.1.1, grd_pos ⟨hr.2.1.2.1, by omega, by rw [hr.2.1.2.2]; omega⟩, m_Sharing_add_eq, l1]
      by_cases q : m = 10
      · left
        rw [if_neg (show ¬ (m : Int) < 10 by omega), bI_some, if_pos rfl, if_pos (show (m : Int) = 10 by omega)]
        exact ⟨M, N, rfl, rfl, kX.rf M, kY.rf N⟩
      · have h512 : 2 ^ m ≤ 512 := show 2 ^ m ≤ 2 ^ 9 from Nat.pow_le_pow_right (by omega) (by omega)
        rw [if_pos (show (m : Int) < 10 by omega), grd_pos (by omega), bM_eq, wr_cell (c := 35) (k := 36) (by decide), l1, bM_eq, bI_some, if_neg (show ¬ (1 : Int) = 0 by omega), if_neg (show ¬ (m : Int) = 10 by omega), ia_eq (by omega) (by omega), ia_eq (by omega) (by omega), show ((m : Nat) : Int).toNat = m from rfl, hcx.2.2.2.1]
        obtain ⟨N1, u, g1, g2, g3⟩ := Mod_lay33 (m := m) (x := x) (wn := N 105 x) (old := sS (M 36) m) (by omega) (by omega) hcx.2.2.2.2.1 hcx.2.2.2.2.2.1 (fun T _ => sS_rg l2 l3 T) (2 ^ m) 0 N (by omega) rfl l4 (fun T hT => by omega)
        have g1' : m_Mod_laysSums_33 (m : Int) (x : Int) 0 N = m_Mod_laysSums_4 ((m : Int) + 1) ((x : Int) + 1) u N1 := g1
        rw [g1']
        have kx : kX M (pz_wr (pz_wr M 36 m (N 105 x)) 35 2 ((m : Int) + 1)) := ((kX.rf M).wr rfl).wr rfl
        have ky : kY N N1 := fun c i z => g3 c i (by intro y; rw [y] at z; exact Bool.noConfusion z)
        have r36 : ∀ i, pz_wr (pz_wr M 36 m (N 105 x)) 35 2 ((m : Int) + 1) 36 i = if i = m then N 105 x else M 36 i := fun i => by rw [wr_cell (by decide), wr_at]
        have r35 : pz_wr (pz_wr M 36 m (N 105 x)) 35 2 ((m : Int) + 1) 35 2 = (m : Int) + 1 := wr_same
        generalize pz_wr (pz_wr M 36 m (N 105 x)) 35 2 ((m : Int) + 1) = M1 at kx r36 r35
        have hl2 : lay M1 N1 (m + 1) := by
          refine ⟨r35, by omega, fun i hi => ?_, fun T hT => ?_⟩
          · rw [r36]
            by_cases e : i = m
            · rw [if_pos e]; omega
            · rw [if_neg e]; exact l3 i (by omega)
          · rw [sS_snoc]
            have e0 : ∀ T', (∀ i, i < m → T.testBit i = T'.testBit i) → sS (M1 36) m T = sS (M 36) m T' := fun T' h => sS_congr (fun i hi => ⟨by rw [r36, if_neg (by omega)], h i hi⟩)
            rw [Nat.pow_succ] at hT
            by_cases q2 : T < 2 ^ m
            · rw [e0 T (fun _ _ => rfl), (g2 T q2).1, Nat.testBit_lt_two_pow q2, if_neg Bool.false_ne_true, Int.add_zero]
            · have eT : T = (T - 2 ^ m) + 2 ^ m := by omega
              have hT' : T - 2 ^ m < 2 ^ m := by omega
              have hbit : ∀ i, T.testBit i = ((T - 2 ^ m).testBit i || decide (m = i)) := by
                intro i
                have := bit_add (i := i) hT'
                rw [← eT] at this
                exact this
              have gg := (g2 (T - 2 ^ m) hT').2
              rw [← eT] at gg
              rw [e0 (T - 2 ^ m) (fun i hi => by rw [hbit, decide_eq_false (by omega), Bool.or_false]), gg, hbit m, decide_eq_true rfl, Bool.or_true, if_pos rfl, r36, if_pos rfl]
        have hc2 : rl_cases M1 N1 kc n := rl_cases_keep hc kx.to1 ky.to1
        have ht2 : rl_ter M1 N1 49 101 n := rl_ter_keep ht (fun i => kx _ i (cX_row (by omega))) (fun i => kx _ i (cX_row (by omega))) (fun i => kx _ i (cX_row (by omega))) (fun i => kx _ i (cX_row (by omega))) (fun i => ky _ i (cY_row (by omega)))
        rcases ih (x + 1) (m + 1) M1 N1 u (by omega) hc2 ht2 hl2 with ⟨M', N', p1, p2, p3, p4⟩ | ⟨M', N', m', p1, p2, p3, p4, p5⟩
        · exact Or.inl ⟨M', N', p1, p2, kx.tr p3, ky.tr p4⟩
        · exact Or.inr ⟨M', N', m', p1, p2, p3, kx.tr p4, ky.tr p5⟩
