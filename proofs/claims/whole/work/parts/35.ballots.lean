/-! ballots that were read: who wins -/
def allB (P : Nat → Bool) : Nat → Bool
  | 0 => true
  | n + 1 => allB P n && P n
theorem allB_iff (P : Nat → Bool) : ∀ n, allB P n = true ↔ ∀ c, c < n → P c = true := by
  intro n
  induction n with
  | zero => exact ⟨fun _ c hc => by omega, fun _ => rfl⟩
  | succ n ih =>
    show (allB P n && P n) = true ↔ _
    rw [Bool.and_eq_true, ih]
    constructor
    · intro h c hc
      by_cases e : c = n
      · rw [e]; exact h.2
      · exact h.1 c (by omega)
    · intro h
      exact ⟨fun c hc => h c (by omega), h n (by omega)⟩
def blt (M N : pz_M) (n L : Nat) (τ : Nat → Int) (ρ : Nat → Nat → Int) : Prop := M 32 2 = L ∧ N 100 37 = L ∧ M 32 3 = n ∧ N 100 44 = n ∧ 2 ≤ n ∧ n ≤ 6 ∧ L ≤ 12 ∧ (∀ l, l < L → M 33 l = τ l ∧ N 128 l = τ l ∧ 0 ≤ τ l ∧ τ l ≤ 99) ∧ (∀ l c, l < L → c < n → M 34 (6 * l + c) = ρ l c ∧ N 129 (6 * l + c) = ρ l c) ∧ (∀ l c d, l < L → c < n → d < n → ρ l c = ρ l d → c = d)
theorem Cab_rank {M N : pz_M} {n L : Nat} {τ : Nat → Int} {ρ : Nat → Nat → Int} (h : blt M N n L τ ρ) {x y : Int} (x0 : 0 ≤ x) (x1 : x < L) (y0 : 0 ≤ y) (y1 : y < n) : m_Cabinet_rankOf x y M = some (some (pzI (ρ x.toNat y.toNat)), M) := by
  obtain ⟨a1, a2, a3, a4, a5, a6, a7, a8, a9, a10⟩ := h
  rw [m_Cabinet_rankOf_eq, imu_eq (by omega) (by omega), ia_eq (by omega) (by omega), grd_pos (by omega), show (x * 6 + y).toNat = 6 * x.toNat + y.toNat by omega, (a9 _ _ (by omega) (by omega)).1]
def fB (n : Nat) (ρ : Nat → Nat → Int) (m S : Nat) (l : Nat) : Bool := allB (fun c => !(S.testBit c) || decide (ρ l m ≤ ρ l c)) n
def fF (n L : Nat) (τ : Nat → Int) (ρ : Nat → Nat → Int) (m S : Nat) : Int := sumP (fB n ρ m S) τ L
theorem fF_rg {M N : pz_M} {n L : Nat} {τ : Nat → Int} {ρ : Nat → Nat → Int} (h : blt M N n L τ ρ) (m S : Nat) : 0 ≤ fF n L τ ρ m S ∧ fF n L τ ρ m S ≤ 1188 := by
  obtain ⟨a1, a2, a3, a4, a5, a6, a7, a8, a9, a10⟩ := h
  have := sumP_rg (P := fB n ρ m S) (f := τ) (B := 99) (by omega) L (fun c hc => (a8 c hc).2.2)
  unfold fF
  omega
theorem Cab_firsts {M N : pz_M} {n L : Nat} {τ : Nat → Int} {ρ : Nat → Nat → Int} (h : blt M N n L τ ρ) {m S : Nat} (hm : m < n) (hS : S < 64) : m_Cabinet_firstsOf (m : Int) (S : Int) M = some (some (pzI (fF n L τ ρ m S)), M) := by
  have h' := h
  obtain ⟨a1, a2, a3, a4, a5, a6, a7, a8, a9, a10⟩ := h'
  have O : ∀ (j : Nat) (x : Int) (w5 w6 w7 : pz_V), 0 ≤ x → x + j = L → m_Cabinet_firstsOf_5 (m : Int) (S : Int) (sumP (fB n ρ m S) τ x.toNat) x w5 w6 w7 M = some (some (pzI (fF n L τ ρ m S)), M) := by
    intro j
    induction j with
    | zero =>
      intro x w5 w6 w7 x0 hj
      have e : x = L := by omega
      subst e
      rw [m_Cabinet_firstsOf_5_eq, a1, if_neg (show ¬ (L : Int) < L by omega)]
      rfl
    | succ j ih =>
      intro x w5 w6 w7 x0 hj
      have hs := sumP_rg (P := fB n ρ m S) (f := τ) (B := 99) (by omega) x.toNat (fun c hc => (a8 c (by omega)).2.2)
      have ht := a8 x.toNat (by omega)
      rw [m_Cabinet_firstsOf_5_eq, a1, if_pos (show x < L by omega)]
      have I : ∀ (i : Nat) (y : Int) (w7 : pz_V), 0 ≤ y → y + i = n → m_Cabinet_firstsOf_20 (m : Int) (S : Int) (sumP (fB n ρ m S) τ x.toNat) x (b01 (allB (fun c => !(S.testBit c) || decide (ρ x.toNat m ≤ ρ x.toNat c)) y.toNat = true)) y w7 M = some (some (pzI (fF n L τ ρ m S)), M) := by
        intro i
        induction i with
        | zero =>
          intro y w7 y0 hi
          have e : y = n := by omega
          subst e
          have := ih (x + 1) (pzI (b01 (fB n ρ m S x.toNat = true))) (pzI n) w7 (by omega) (by omega)
          rw [sumP_at x0] at this
          rw [m_Cabinet_firstsOf_20_eq, a3, if_neg (show ¬ (n : Int) < n by omega), b01_ite]
          show (if fB n ρ m S x.toNat = true then _ else _) = _
          rw [← this]
          by_cases c : fB n ρ m S x.toNat = true
          · rw [if_pos c, if_pos c, grd_pos (by omega), ht.1, ia_eq (x := x) (by omega) (by omega), ia_eq (by omega) (by omega)]
            rfl
          · rw [if_neg c, if_neg c, ia_eq (x := x) (by omega) (by omega), ia_eq (by omega) (by omega)]
            rfl
        | succ i ih2 =>
          intro y w7 y0 hi
          have hb := bit_nat (a := S) (n := y.toNat) (by omega) (by omega)
          rw [show ((y.toNat : Nat) : Int) = y by omega] at hb
          have st : ∀ w7, m_Cabinet_firstsOf_20 (m : Int) (S : Int) (sumP (fB n ρ m S) τ x.toNat) x (b01 ((allB (fun c => !(S.testBit c) || decide (ρ x.toNat m ≤ ρ x.toNat c)) y.toNat && (!(S.testBit y.toNat) || decide (ρ x.toNat m ≤ ρ x.toNat y.toNat))) = true)) (y + 1) w7 M = some (some (pzI (fF n L τ ρ m S)), M) := by
            intro w7
            have := ih2 (y + 1) w7 (by omega) (by omega)
            rw [show (y + 1).toNat = y.toNat + 1 by omega] at this
            exact this
          have ry := Cab_rank h x0 (show x < L by omega) y0 (show y < n by omega)
          have rm := Cab_rank h x0 (show x < L by omega) (show 0 ≤ (m : Int) by omega) (show (m : Int) < n by omega)
          rw [show ((m : Nat) : Int).toNat = m from rfl] at rm
          rw [m_Cabinet_firstsOf_20_eq, a3, if_pos (show y < n by omega), hb, m_Cabinet_firstsOf_44_eq, m_Cabinet_firstsOf_44_eq, ry, bI_some, rm, bI_some, b01_ite, b01_ite, ia_eq (by omega) (by omega)]
          cases A : allB (fun c => !(S.testBit c) || decide (ρ x.toNat m ≤ ρ x.toNat c)) y.toNat with
          | false =>
            rw [A] at st
            rw [if_neg Bool.false_ne_true, if_neg Bool.false_ne_true]
            have s1 := st (pzI 1)
            have s2 := st (pzI 0)
            rw [Bool.false_and, b01_f Bool.false_ne_true] at s1 s2
            split
            · exact s1
            · exact s2
          | true =>
            rw [A] at st
            rw [if_pos rfl, if_pos rfl]
            by_cases B : S.testBit y.toNat = true
            · rw [if_pos B, if_pos rfl, if_neg (show ¬ (1 : Int) = 0 by omega)]
              have s1 := st (pzI 1)
              rw [B, Bool.true_and, Bool.not_true, Bool.false_or] at s1
              by_cases C : ρ x.toNat y.toNat < ρ x.toNat m
              · rw [if_pos C]
                rw [decide_eq_false (show ¬ ρ x.toNat m ≤ ρ x.toNat y.toNat by omega), b01_f Bool.false_ne_true] at s1
                exact s1
              · rw [if_neg C]
                rw [decide_eq_true (show ρ x.toNat m ≤ ρ x.toNat y.toNat by omega), b01_t rfl] at s1
                exact s1
            · have B' : S.testBit y.toNat = false := by cases h : S.testBit y.toNat <;> simp_all
              rw [if_neg B, if_neg (show ¬ (0 : Int) = 1 by omega), if_pos rfl]
              have s1 := st (pzI 0)
              rw [B', Bool.true_and, Bool.not_false, Bool.true_or, b01_t rfl] at s1
              exact s1
      exact I n 0 w7 (by omega) (by omega)
  rw [m_Cabinet_firstsOf_eq]
  exact O L 0 pzN pzN pzN (by omega) (by omega)
/-- first of the least in S, none: -1 -/
theorem Mod_firstOn {M N : pz_M} {n L : Nat} {τ : Nat → Int} {ρ : Nat → Nat → Int} (h : blt M N n L τ ρ) {S : Nat} (hS : S < 64) {x : Int} (x0 : 0 ≤ x) (x1 : x < L) : ∃ r : Int, m_Mod_firstOn x (S : Int) N = some (some (pzI r), N) ∧ (r = -1 ∧ (∀ c, c < n → S.testBit c = false) ∨ ∃ c : Nat, r = c ∧ c < n ∧ S.testBit c = true ∧ ∀ d, d < n → S.testBit d = true → ρ x.toNat c ≤ ρ x.toNat d) := by
  obtain ⟨a1, a2, a3, a4, a5, a6, a7, a8, a9, a10⟩ := h
  have O : ∀ (j : Nat) (y r : Int), 0 ≤ y → y + j = n → (r = -1 ∧ (∀ c : Nat, (c : Int) < y → S.testBit c = false) ∨ ∃ c : Nat, r = c ∧ (c : Int) < y ∧ S.testBit c = true ∧ ∀ d : Nat, (d : Int) < y → S.testBit d = true → ρ x.toNat c ≤ ρ x.toNat d) → ∃ r2 : Int, m_Mod_firstOn_5 x (S : Int) r y N = some (some (pzI r2), N) ∧ (r2 = -1 ∧ (∀ c, c < n → S.testBit c = false) ∨ ∃ c : Nat, r2 = c ∧ c < n ∧ S.testBit c = true ∧ ∀ d, d < n → S.testBit d = true → ρ x.toNat c ≤ ρ x.toNat d) := by
    intro j
    induction j with
    | zero =>
      intro y r y0 hj hr
      refine ⟨r, by rw [m_Mod_firstOn_5_eq, a4, if_neg (show ¬ y < n by omega)], ?_⟩
      rcases hr with ⟨e, g⟩ | ⟨c, g1, g2, g3, g4⟩
      · exact Or.inl ⟨e, fun c hc => g c (by omega)⟩
      · exact Or.inr ⟨c, g1, by omega, g3, fun d hd => g4 d (by omega)⟩
    | succ j ih =>
      intro y r y0 hj hr
      rw [m_Mod_firstOn_5_eq, a4, if_pos (show y < n by omega), Mod_has (by omega) y0 (by omega), bI_some, b01_ite, ia_eq (x := y) (by omega) (by omega)]
      by_cases B : S.testBit y.toNat = true
      · rw [if_pos B]
        rcases hr with ⟨e, g⟩ | ⟨c, g1, g2, g3, g4⟩
        · rw [if_pos e]
          refine ih (y + 1) y (by omega) (by omega) (Or.inr ⟨y.toNat, by omega, by omega, B, fun d hd hb => ?_⟩)
          by_cases e2 : d = y.toNat
          · rw [e2]; exact Int.le_refl _
          · rw [g d (by omega)] at hb
            exact Bool.noConfusion hb
        · subst g1
          rw [if_neg (show ¬ (c : Int) = -1 by omega), imu_eq (x := 6) (y := x) (by omega) (by omega), ia_eq (x := 6 * x) (y := y) (by omega) (by omega), ia_eq (x := 6 * x) (y := (c : Int)) (by omega) (by omega), grd_pos (by omega), grd_pos (by omega), show (6 * x + y).toNat = 6 * x.toNat + y.toNat by omega, show (6 * x + (c : Int)).toNat = 6 * x.toNat + c by omega, (a9 _ _ (by omega) (by omega)).2, (a9 _ c (by omega) (by omega)).2]
          by_cases C : ρ x.toNat y.toNat < ρ x.toNat c
          · rw [if_pos C]
            refine ih (y + 1) y (by omega) (by omega) (Or.inr ⟨y.toNat, by omega, by omega, B, fun d hd hb => ?_⟩)
            by_cases e2 : d = y.toNat
            · rw [e2]; exact Int.le_refl _
            · have := g4 d (by omega) hb
              omega
          · rw [if_neg C]
            refine ih (y + 1) c (by omega) (by omega) (Or.inr ⟨c, rfl, by omega, g3, fun d hd hb => ?_⟩)
            by_cases e2 : d = y.toNat
            · rw [e2]; omega
            · exact g4 d (by omega) hb
      · rw [if_neg B]
        refine ih (y + 1) r (by omega) (by omega) ?_
        have nB : ∀ d : Nat, (d : Int) < y + 1 → S.testBit d = true → (d : Int) < y := by
          intro d hd hb
          by_cases e2 : d = y.toNat
          · rw [e2] at hb; exact absurd hb B
          · omega
        rcases hr with ⟨e, g⟩ | ⟨c, g1, g2, g3, g4⟩
        · refine Or.inl ⟨e, fun c hc => ?_⟩
          by_cases e2 : c = y.toNat
          · rw [e2]; cases h : S.testBit y.toNat <;> simp_all
          · exact g c (by omega)
        · exact Or.inr ⟨c, g1, by omega, g3, fun d hd hb => g4 d (nB d hd hb) hb⟩
  rw [m_Mod_firstOn_eq]
  exact O n 0 (-1) (by omega) (by omega) (Or.inl ⟨rfl, fun c hc => by omega⟩)
theorem fB_iff {n m S l : Nat} {ρ : Nat → Nat → Int} : fB n ρ m S l = true ↔ ∀ c, c < n → S.testBit c = true → ρ l m ≤ ρ l c := by
  unfold fB
  rw [allB_iff]
  constructor
  · intro h c hc hb
    have := h c hc
    rw [hb, Bool.not_true, Bool.false_or, decide_eq_true_eq] at this
    exact this
  · intro h c hc
    cases hb : S.testBit c with
    | false => rfl
    | true =>
      rw [Bool.not_true, Bool.false_or, decide_eq_true_eq]
      exact h c hc hb
theorem Mod_firsts {M N : pz_M} {n L : Nat} {τ : Nat → Int} {ρ : Nat → Nat → Int} (h : blt M N n L τ ρ) {m S : Nat} (hm : m < n) (hS : S < 64) (hmS : S.testBit m = true) : m_Mod_firstsOf (m : Int) (S : Int) N = some (some (pzI (fF n L τ ρ m S)), N) := by
  have h' := h
  obtain ⟨a1, a2, a3, a4, a5, a6, a7, a8, a9, a10⟩ := h'
  have O : ∀ (j : Nat) (x : Int), 0 ≤ x → x + j = L → m_Mod_firstsOf_5 (m : Int) (S : Int) (sumP (fB n ρ m S) τ x.toNat) x N = some (some (pzI (fF n L τ ρ m S)), N) := by
    intro j
    induction j with
    | zero =>
      intro x x0 hj
      have e : x = L := by omega
      subst e
      rw [m_Mod_firstsOf_5_eq, a2, if_neg (show ¬ (L : Int) < L by omega)]
      rfl
    | succ j ih =>
      intro x x0 hj
      have hs := sumP_rg (P := fB n ρ m S) (f := τ) (B := 99) (by omega) x.toNat (fun c hc => (a8 c (by omega)).2.2)
      have ht := a8 x.toNat (by omega)
      obtain ⟨r, g1, g2⟩ := Mod_firstOn h hS x0 (show x < L by omega)
      have := ih (x + 1) (by omega) (by omega)
      rw [sumP_at x0] at this
      rw [m_Mod_firstsOf_5_eq, a2, if_pos (show x < L by omega), g1, bI_some, ia_eq (x := x) (by omega) (by omega), ht.2.1, ia_eq (by omega) (by omega), ← this]
      have key : r = m ↔ fB n ρ m S x.toNat = true := by
        rw [fB_iff]
        rcases g2 with ⟨e, g⟩ | ⟨c, e, gc, gb, gm⟩
        · rw [g m hm] at hmS
          exact Bool.noConfusion hmS
        · subst e
          constructor
          · intro e2 d hd hb
            rw [show m = c by omega]
            exact gm d hd hb
          · intro e2
            have i1 := e2 c gc gb
            have i2 := gm m hm hmS
            have := a10 x.toNat c m (by omega) gc hm (by omega)
            omega
      by_cases C : r = m
      · rw [if_pos C, if_pos (key.mp C), grd_pos (by omega)]
      · rw [if_neg C, if_neg (fun z => C (key.mpr z)), Int.add_zero]
  rw [m_Mod_firstsOf_eq]
  exact O L 0 (by omega) (by omega)
theorem Cab_all {M N : pz_M} {n L : Nat} {τ : Nat → Int} {ρ : Nat → Nat → Int} (h : blt M N n L τ ρ) : m_Cabinet_allBallots M = some (some (pzI (sumI τ L)), M) ∧ m_Mod_ballotMany N = some (some (pzI (sumI τ L)), N) := by
  obtain ⟨a1, a2, a3, a4, a5, a6, a7, a8, a9, a10⟩ := h
  have O : ∀ (j : Nat) (x : Int), 0 ≤ x → x + j = L → m_Cabinet_allBallots_4 (sumI τ x.toNat) x M = some (some (pzI (sumI τ L)), M) ∧ m_Mod_ballotMany_4 (sumI τ x.toNat) x N = some (some (pzI (sumI τ L)), N) := by
    intro j
    induction j with
    | zero =>
      intro x x0 hj
      have e : x = L := by omega
      subst e
      rw [m_Cabinet_allBallots_4_eq, a1, if_neg (show ¬ (L : Int) < L by omega), m_Mod_ballotMany_4_eq, a2, if_neg (show ¬ (L : Int) < L by omega)]
      exact ⟨rfl, rfl⟩
    | succ j ih =>
      intro x x0 hj
      have hs := sumI_rg (f := τ) (B := 99) x.toNat (fun c hc => (a8 c (by omega)).2.2)
      have ht := a8 x.toNat (by omega)
      rw [m_Cabinet_allBallots_4_eq, a1, if_pos (show x < L by omega), grd_pos (by omega), m_Mod_ballotMany_4_eq, a2, if_pos (show x < L by omega), grd_pos (by omega), ht.1, ht.2.1, ia_eq (x := x) (by omega) (by omega), ia_eq (by omega) (by omega), ← sumI_at x0]
      exact ih (x + 1) (by omega) (by omega)
  rw [m_Cabinet_allBallots_eq, m_Mod_ballotMany_eq]
  exact O L 0 (by omega) (by omega)
theorem Cab_points {M N : pz_M} {n L : Nat} {τ : Nat → Int} {ρ : Nat → Nat → Int} (h : blt M N n L τ ρ) {m : Int} (m0 : 0 ≤ m) (hm : m < n) : ∃ r, m_Cabinet_pointsOf m M = some (some (pzI r), M) ∧ m_Mod_pointsOf m N = some (some (pzI r), N) := by
  have h' := h
  obtain ⟨a1, a2, a3, a4, a5, a6, a7, a8, a9, a10⟩ := h'
  have O : ∀ (j : Nat) (x s : Int), 0 ≤ x → x + j = L → ∃ r, m_Cabinet_pointsOf_4 m s x M = some (some (pzI r), M) ∧ m_Mod_pointsOf_4 m s x N = some (some (pzI r), N) := by
    intro j
    induction j with
    | zero =>
      intro x s x0 hj
      rw [m_Cabinet_pointsOf_4_eq, a1, if_neg (show ¬ x < L by omega), m_Mod_pointsOf_4_eq, a2, if_neg (show ¬ x < L by omega)]
      exact ⟨s, rfl, rfl⟩
    | succ j ih =>
      intro x s x0 hj
      have ht := a8 x.toNat (by omega)
      rw [m_Cabinet_pointsOf_4_eq, a1, if_pos (show x < L by omega), grd_pos (by omega), Cab_rank h x0 (by omega) m0 hm, bI_some, m_Mod_pointsOf_4_eq, a2, if_pos (show x < L by omega), imu_eq (x := 6) (y := x) (by omega) (by omega), ia_eq (x := 6 * x) (y := m) (by omega) (by omega), grd_pos (by omega), grd_pos (by omega), show (6 * x + m).toNat = 6 * x.toNat + m.toNat by omega, (a9 _ _ (by omega) (by omega)).2, ht.1, ht.2.1, a3, a4, ia_eq (x := x) (by omega) (by omega)]
      exact ih (x + 1) _ (by omega) (by omega)
  rw [m_Cabinet_pointsOf_eq, m_Mod_pointsOf_eq]
  exact O L 0 0 (by omega) (by omega)
theorem Cab_byPoints {M N : pz_M} {n L : Nat} {τ : Nat → Int} {ρ : Nat → Nat → Int} (h : blt M N n L τ ρ) : ∃ r, m_Cabinet_byPoints M = some (some (pzI r), M) ∧ m_Mod_byPoints N = some (some (pzI r), N) := by
  have h' := h
  obtain ⟨a1, a2, a3, a4, a5, a6, a7, a8, a9, a10⟩ := h'
  have O : ∀ (j : Nat) (b y : Int), 0 ≤ b → b < n → 0 ≤ y → y + j = n → ∃ r, m_Cabinet_byPoints_4 b y M = some (some (pzI r), M) ∧ m_Mod_byPoints_4 b y N = some (some (pzI r), N) := by
    intro j
    induction j with
    | zero =>
      intro b y b0 b1 y0 hj
      rw [m_Cabinet_byPoints_4_eq, a3, if_neg (show ¬ y < n by omega), m_Mod_byPoints_4_eq, a4, if_neg (show ¬ y < n by omega)]
      exact ⟨b, rfl, rfl⟩
    | succ j ih =>
      intro b y b0 b1 y0 hj
      obtain ⟨r1, p1, q1⟩ := Cab_points h y0 (show y < n by omega)
      obtain ⟨r2, p2, q2⟩ := Cab_points h b0 b1
      rw [m_Cabinet_byPoints_4_eq, a3, if_pos (show y < n by omega), p1, bI_some, p2, bI_some, m_Mod_byPoints_4_eq, a4, if_pos (show y < n by omega), q1, bI_some, q2, bI_some, ia_eq (by omega) (by omega)]
      by_cases c : r2 < r1
      · rw [if_pos c, if_pos c]
        exact ih y (y + 1) (by omega) (by omega) (by omega) (by omega)
      · rw [if_neg c, if_neg c]
        exact ih b (y + 1) (by omega) (by omega) (by omega) (by omega)
  rw [m_Cabinet_byPoints_eq, m_Mod_byPoints_eq]
  exact O (n - 1) 0 1 (by omega) (by omega) (by omega) (by omega)
theorem full_eq : ∀ n : Fin 7, isb (ihl 1 ((n.val : Nat) : Int)) 1 = ((2 ^ n.val - 1 : Nat) : Int) := by decide +kernel
theorem full_bit {n c : Nat} (hc : c < n) : (2 ^ n - 1).testBit c = true := by rw [Nat.testBit_two_pow_sub_one, decide_eq_true hc]
theorem full_lt {n : Nat} (hn : n ≤ 6) : 2 ^ n - 1 < 64 := by
  have : 2 ^ n ≤ 2 ^ 6 := Nat.pow_le_pow_right (by omega) hn
  have : (2 : Nat) ^ 6 = 64 := rfl
  omega
theorem Cab_byFirst {M N : pz_M} {n L : Nat} {τ : Nat → Int} {ρ : Nat → Nat → Int} (h : blt M N n L τ ρ) : ∃ r, m_Cabinet_byFirstPlaces M = some (some (pzI r), M) ∧ m_Mod_byFirsts N = some (some (pzI r), N) := by
  have h' := h
  obtain ⟨a1, a2, a3, a4, a5, a6, a7, a8, a9, a10⟩ := h'
  have O : ∀ (j : Nat) (b y : Nat), b < n → y + j = n → ∃ r, m_Cabinet_byFirstPlaces_13 ((2 ^ n - 1 : Nat) : Int) (b : Int) (y : Int) M = some (some (pzI r), M) ∧ m_Mod_byFirsts_13 ((2 ^ n - 1 : Nat) : Int) (b : Int) (y : Int) N = some (some (pzI r), N) := by
    intro j
    induction j with
    | zero =>
      intro b y b1 hj
      rw [m_Cabinet_byFirstPlaces_13_eq, a3, if_neg (show ¬ (y : Int) < n by omega), m_Mod_byFirsts_13_eq, a4, if_neg (show ¬ (y : Int) < n by omega)]
      exact ⟨b, rfl, rfl⟩
    | succ j ih =>
      intro b y b1 hj
      rw [m_Cabinet_byFirstPlaces_13_eq, a3, if_pos (show (y : Int) < n by omega), Cab_firsts h (show y < n by omega) (full_lt a6), bI_some, Cab_firsts h b1 (full_lt a6), bI_some, m_Mod_byFirsts_13_eq, a4, if_pos (show (y : Int) < n by omega), Mod_firsts h (show y < n by omega) (full_lt a6) (full_bit (by omega)), bI_some, Mod_firsts h b1 (full_lt a6) (full_bit b1), bI_some, ia_eq (by omega) (by omega)]
      by_cases c : fF n L τ ρ b (2 ^ n - 1) < fF n L τ ρ y (2 ^ n - 1)
      · rw [if_pos c, if_pos c]
        exact ih y (y + 1) (by omega) (by omega)
      · rw [if_neg c, if_neg c]
        exact ih b (y + 1) b1 (by omega)
  rw [m_Cabinet_byFirstPlaces_eq, m_Mod_byFirsts_eq, a3, a4, full_eq ⟨n, by omega⟩]
  exact O (n - 1) 0 1 (by omega) (by omega)
theorem Cab_ahead {M N : pz_M} {n L : Nat} {τ : Nat → Int} {ρ : Nat → Nat → Int} (h : blt M N n L τ ρ) {a d : Nat} (ha : a < n) (hd : d < n) (had : a ≠ d) : m_Cabinet_firstsOf (a : Int) (ihl 1 (d : Int)) M = some (some (pzI (fF n L τ ρ a (2 ^ d))), M) ∧ m_Mod_isAhead (a : Int) (d : Int) N = some (some (pzI (b01 (sumI τ L < 2 * fF n L τ ρ a (2 ^ d)))), N) := by
  have h' := h
  obtain ⟨a1, a2, a3, a4, a5, a6, a7, a8, a9, a10⟩ := h'
  have h64 : 2 ^ d < 64 := show 2 ^ d < 2 ^ 6 from Nat.pow_lt_pow_right (by omega) (by omega)
  refine ⟨by rw [ihl_1 (by omega), Cab_firsts h ha h64], ?_⟩
  have hF := fF_rg h a (2 ^ d)
  have O : ∀ (j : Nat) (x : Int), 0 ≤ x → x + j = L → m_Mod_isAhead_5 (a : Int) (d : Int) (sumP (fB n ρ a (2 ^ d)) τ x.toNat) x N = some (some (pzI (b01 (sumI τ L < 2 * fF n L τ ρ a (2 ^ d)))), N) := by
    intro j
    induction j with
    | zero =>
      intro x x0 hj
      have e : x = L := by omega
      subst e
      rw [m_Mod_isAhead_5_eq, a2, if_neg (show ¬ (L : Int) < L by omega), (Cab_all h).2, bI_some]
      show (if sumI τ L < imu 2 (fF n L τ ρ a (2 ^ d)) then _ else _) = _
      rw [imu_eq (by omega) (by omega)]
      by_cases c : sumI τ L < 2 * fF n L τ ρ a (2 ^ d)
      · rw [if_pos c, b01_t c]
      · rw [if_neg c, b01_f c]
    | succ j ih =>
      intro x x0 hj
      have hs := sumP_rg (P := fB n ρ a (2 ^ d)) (f := τ) (B := 99) (by omega) x.toNat (fun c hc => (a8 c (by omega)).2.2)
      have ht := a8 x.toNat (by omega)
      have := ih (x + 1) (by omega) (by omega)
      rw [sumP_at x0] at this
      rw [m_Mod_isAhead_5_eq, a2, if_pos (show x < L by omega), imu_eq (x := 6) (y := x) (by omega) (by omega), ia_eq (x := 6 * x) (y := (a : Int)) (by omega) (by omega), ia_eq (x := 6 * x) (y := (d : Int)) (by omega) (by omega), grd_pos (by omega), grd_pos (by omega), show (6 * x + (a : Int)).toNat = 6 * x.toNat + a by omega, show (6 * x + (d : Int)).toNat = 6 * x.toNat + d by omega, (a9 _ _ (by omega) ha).2, (a9 _ _ (by omega) hd).2, ht.2.1, ia_eq (x := x) (by omega) (by omega), ia_eq (by omega) (by omega), ← this]
      have key : ρ x.toNat a < ρ x.toNat d ↔ fB n ρ a (2 ^ d) x.toNat = true := by
        rw [fB_iff]
        constructor
        · intro i c hc hb
          rw [Nat.testBit_two_pow, decide_eq_true_eq] at hb
          rw [← hb]; omega
        · intro i
          have i1 := i d hd (by rw [Nat.testBit_two_pow, decide_eq_true_eq])
          by_cases e : ρ x.toNat a = ρ x.toNat d
          · exact absurd (a10 _ a d (by omega) ha hd e) had
          · omega
      by_cases C : ρ x.toNat a < ρ x.toNat d
      · rw [if_pos C, if_pos (key.mp C), grd_pos (by omega)]
      · rw [if_neg C, if_neg (fun z => C (key.mpr z)), Int.add_zero]
  rw [m_Mod_isAhead_eq]
  exact O L 0 (by omega) (by omega)
theorem Cab_byTwos {M N : pz_M} {n L : Nat} {τ : Nat → Int} {ρ : Nat → Nat → Int} (h : blt M N n L τ ρ) : ∃ r, m_Cabinet_byTwos M = some (some (pzI r), M) ∧ m_Mod_byTwos N = some (some (pzI r), N) := by
  have h' := h
  obtain ⟨a1, a2, a3, a4, a5, a6, a7, a8, a9, a10⟩ := h'
  have O : ∀ (j : Nat) (a : Nat) (w3 w4 u2 u3 : pz_V), a + j = n → ∃ r, m_Cabinet_byTwos_7 (sumI τ L) (a : Int) w3 w4 M = some (some (pzI r), M) ∧ m_Mod_byTwos_2 (a : Int) u2 u3 N = some (some (pzI r), N) := by
    intro j
    induction j with
    | zero =>
      intro a w3 w4 u2 u3 hj
      rw [m_Cabinet_byTwos_7_eq, a3, if_neg (show ¬ (a : Int) < n by omega), m_Mod_byTwos_2_eq, a4, if_neg (show ¬ (a : Int) < n by omega)]
      exact ⟨-2, rfl, rfl⟩
    | succ j ih =>
      intro a w3 w4 u2 u3 hj
      rw [m_Cabinet_byTwos_7_eq, a3, if_pos (show (a : Int) < n by omega), m_Mod_byTwos_2_eq, a4, if_pos (show (a : Int) < n by omega)]
      have I : ∀ (i d : Nat) (f : Int), f = 0 ∨ f = 1 → d + i = n → ∃ r, m_Cabinet_byTwos_20 (sumI τ L) (a : Int) f (d : Int) M = some (some (pzI r), M) ∧ m_Mod_byTwos_14 (a : Int) f (d : Int) N = some (some (pzI r), N) := by
        intro i
        induction i with
        | zero =>
          intro d f hf hi
          rw [m_Cabinet_byTwos_20_eq, a3, if_neg (show ¬ (d : Int) < n by omega), m_Mod_byTwos_14_eq, a4, if_neg (show ¬ (d : Int) < n by omega)]
          by_cases z : f = 0
          · rw [if_pos z, if_pos z, ia_eq (by omega) (by omega)]
            exact ih (a + 1) _ _ _ _ (by omega)
          · rw [if_neg z, if_neg z]
            exact ⟨a, rfl, rfl⟩
        | succ i ih2 =>
          intro d f hf hi
          rw [m_Cabinet_byTwos_20_eq, a3, if_pos (show (d : Int) < n by omega), m_Mod_byTwos_14_eq, a4, if_pos (show (d : Int) < n by omega), ia_eq (by omega) (by omega)]
          by_cases e : (d : Int) = a
          · rw [if_pos e, if_pos e]
            rcases hf with rfl | rfl
            · rw [if_pos rfl]; exact ih2 (d + 1) 0 (Or.inl rfl) (by omega)
            · rw [if_neg (show ¬ (1 : Int) = 0 by omega)]; exact ih2 (d + 1) 1 (Or.inr rfl) (by omega)
          · obtain ⟨p1, p2⟩ := Cab_ahead h (show a < n by omega) (show d < n by omega) (show a ≠ d by omega)
            have hF := fF_rg h a (2 ^ d)
            rw [if_neg e, if_neg e, p1, bI_some, p2, bI_some, b01_ite, imu_eq (by omega) (by omega)]
            rcases hf with rfl | rfl
            · rw [if_pos rfl]
              have := ih2 (d + 1) 0 (Or.inl rfl) (by omega)
              split <;> exact this
            · rw [if_neg (show ¬ (1 : Int) = 0 by omega)]
              by_cases c : sumI τ L < 2 * fF n L τ ρ a (2 ^ d)
              · rw [if_pos c, if_pos c]; exact ih2 (d + 1) 1 (Or.inr rfl) (by omega)
              · rw [if_neg c, if_neg c]; exact ih2 (d + 1) 0 (Or.inl rfl) (by omega)
      exact I n 0 1 (Or.inr rfl) (by omega)
  rw [m_Cabinet_byTwos_eq, (Cab_all h).1, bI_some, m_Mod_byTwos_eq]
  exact O n 0 pzN pzN pzN pzN (by omega)
def clr (S r : Nat) : Nat := if S.testBit r then S - 2 ^ r else S
theorem clr_eq : ∀ (S : Fin 64) (r : Fin 6), ian ((S.val : Nat) : Int) (ixo (ihl 1 ((r.val : Nat) : Int)) (-1)) = ((clr S.val r.val : Nat) : Int) := by decide +kernel
theorem clr_pop : ∀ (S : Fin 64) (r : Fin 6), S.val.testBit r.val = true → popN (clr S.val r.val) 24 = popN S.val 24 - 1 := by decide +kernel
theorem clr_bit : ∀ (S : Fin 64) (r : Fin 6) (c : Fin 6), (clr S.val r.val).testBit c.val = true → S.val.testBit c.val = true := by decide +kernel
theorem clr_lt : ∀ (S : Fin 64) (r : Fin 6), clr S.val r.val < 64 := by decide +kernel
theorem one_bit : ∀ S : Fin 64, popN S.val 24 = 1 → ∃ r : Fin 6, S.val = 2 ^ r.val := by decide +kernel
theorem two_bit : ∀ S : Fin 64, 1 ≤ popN S.val 24 → ∃ r : Fin 6, S.val.testBit r.val = true := by decide +kernel
theorem full_pop : ∀ n : Fin 7, popN (2 ^ n.val - 1) 24 = n.val := by decide +kernel
def nz62 (x y : Int) : Int := if (4 : Int) < x then ia (ia y 2) (iuh (iuh x 2) 1) else ia y (iuh x 1)
def nz49 (x y : Int) : Int := if (16 : Int) < x then nz62 (iuh x 4) (ia y 4) else nz62 x y
def nz34 (x y : Int) : Int := if (256 : Int) < x then nz49 (iuh x 8) (ia y 8) else nz49 x y
def nz00 (x : Int) : Int := if 0 < ian (ixo x (-1)) (isb x 1) then (if (65536 : Int) < ian (ixo x (-1)) (isb x 1) then nz34 (iuh (ian (ixo x (-1)) (isb x 1)) 16) (ia 1 16) else nz34 (ian (ixo x (-1)) (isb x 1)) 1) else ian (ian (ixo x (-1)) (isb x 1)) 32
theorem nz62_eq (x y : Int) (M : pz_M) : m_Integer_numberOfTrailingZeros_62 x y M = some (some (pzI (nz62 x y)), M) := by
  rw [m_Integer_numberOfTrailingZeros_62_eq]
  unfold nz62
  split <;> rfl
theorem nz49_eq (x y : Int) (M : pz_M) : m_Integer_numberOfTrailingZeros_49 x y M = some (some (pzI (nz49 x y)), M) := by
  rw [m_Integer_numberOfTrailingZeros_49_eq, nz62_eq, nz62_eq]
  unfold nz49
  split <;> rfl
theorem nz34_eq (x y : Int) (M : pz_M) : m_Integer_numberOfTrailingZeros_34 x y M = some (some (pzI (nz34 x y)), M) := by
  rw [m_Integer_numberOfTrailingZeros_34_eq, nz49_eq, nz49_eq]
  unfold nz34
  split <;> rfl
theorem nz00_eq (x : Int) (M : pz_M) : m_Integer_numberOfTrailingZeros x M = some (some (pzI (nz00 x)), M) := by
  rw [m_Integer_numberOfTrailingZeros_eq, nz34_eq, nz34_eq]
  unfold nz00
  (repeat' split) <;> rfl
theorem nz_pow : ∀ r : Fin 6, nz00 ((2 ^ r.val : Nat) : Int) = r.val := by decide +kernel
theorem Int_ntz {r : Nat} (hr : r < 6) (M : pz_M) : m_Integer_numberOfTrailingZeros ((2 ^ r : Nat) : Int) M = some (some (pzI r), M) := by
  have h := nz_pow ⟨r, hr⟩
  dsimp only at h
  rw [nz00_eq, h]
theorem sumP_le (P : Nat → Bool) (f : Nat → Int) : ∀ n, (∀ c, c < n → 0 ≤ f c) → sumP P f n ≤ sumI f n := by
  intro n
  induction n with
  | zero => intro _; exact Int.le_refl _
  | succ n ih =>
    intro h
    have h1 := ih (fun c hc => h c (by omega))
    have h2 := h n (by omega)
    show sumP P f n + (if P n then f n else 0) ≤ sumI f n + f n
    split <;> omega
theorem Cab_fewest {M N : pz_M} {n L : Nat} {τ : Nat → Int} {ρ : Nat → Nat → Int} (h : blt M N n L τ ρ) {S : Nat} (hS : S < 64) (hb : ∃ c, c < n ∧ S.testBit c = true) : ∃ r : Nat, r < n ∧ S.testBit r = true ∧ m_Cabinet_fewestOf (S : Int) M = some (some (pzI r), M) ∧ m_Mod_byRounds_21 (S : Int) (-1) 0 N = m_Mod_byRounds_9 (ian (S : Int) (ixo (ihl 1 (r : Int)) (-1))) (pzI r) (pzI n) N := by
  have h' := h
  obtain ⟨a1, a2, a3, a4, a5, a6, a7, a8, a9, a10⟩ := h'
  have J : ∀ (j y b : Nat), y + j = n → b < y → S.testBit b = true → ∃ r : Nat, r < n ∧ S.testBit r = true ∧ m_Cabinet_fewestOf_10 (S : Int) (b : Int) (fF n L τ ρ b S) (y : Int) M = some (some (pzI r), M) ∧ m_Mod_byRounds_21 (S : Int) (b : Int) (y : Int) N = m_Mod_byRounds_9 (ian (S : Int) (ixo (ihl 1 (r : Int)) (-1))) (pzI r) (pzI n) N := by
    intro j
    induction j with
    | zero =>
      intro y b hj hby hbb
      refine ⟨b, by omega, hbb, ?_, ?_⟩
      · rw [m_Cabinet_fewestOf_10_eq, a3, if_neg (show ¬ (y : Int) < n by omega)]
      · rw [m_Mod_byRounds_21_eq, a4, if_neg (show ¬ (y : Int) < n by omega), show (y : Int) = n by omega]
    | succ j ih =>
      intro y b hj hby hbb
      have hbit := bit_nat (a := S) (n := y) (by omega) (by omega)
      rw [m_Cabinet_fewestOf_10_eq, a3, if_pos (show (y : Int) < n by omega), hbit, m_Mod_byRounds_21_eq, a4, if_pos (show (y : Int) < n by omega), Mod_has (by omega) (by omega) (by omega), bI_some, b01_ite, show ((y : Nat) : Int).toNat = y from rfl, ia_eq (x := (y : Int)) (by omega) (by omega)]
      by_cases B : S.testBit y = true
      · rw [if_pos B, if_pos rfl, if_pos B, if_neg (show ¬ (b : Int) = -1 by omega), Cab_firsts h (show y < n by omega) hS, bI_some, Cab_firsts h (show y < n by omega) hS, bI_some, Mod_firsts h (show y < n by omega) hS B, bI_some, Mod_firsts h (show b < n by omega) hS hbb, bI_some]
        by_cases c : fF n L τ ρ b S < fF n L τ ρ y S
        · rw [if_pos c, if_pos c]
          exact ih (y + 1) b (by omega) (by omega) hbb
        · rw [if_neg c, if_neg c]
          exact ih (y + 1) y (by omega) (by omega) B
      · rw [if_neg B, if_neg (show ¬ (0 : Int) = 1 by omega), if_neg B]
        exact ih (y + 1) b (by omega) (by omega) hbb
  have K : ∀ (j y : Nat), y + j = n → (∃ c, y ≤ c ∧ c < n ∧ S.testBit c = true) → ∃ r : Nat, r < n ∧ S.testBit r = true ∧ m_Cabinet_fewestOf_10 (S : Int) 0 (sumI τ L) (y : Int) M = some (some (pzI r), M) ∧ m_Mod_byRounds_21 (S : Int) (-1) (y : Int) N = m_Mod_byRounds_9 (ian (S : Int) (ixo (ihl 1 (r : Int)) (-1))) (pzI r) (pzI n) N := by
    intro j
    induction j with
    | zero =>
      intro y hj hc
      obtain ⟨c, h1, h2, h3⟩ := hc
      omega
    | succ j ih =>
      intro y hj hc
      have hF : fF n L τ ρ y S ≤ sumI τ L := sumP_le _ _ L (fun c hc => (a8 c hc).2.2.1)
      have hbit := bit_nat (a := S) (n := y) (by omega) (by omega)
      rw [m_Cabinet_fewestOf_10_eq, a3, if_pos (show (y : Int) < n by omega), hbit, m_Mod_byRounds_21_eq, a4, if_pos (show (y : Int) < n by omega), Mod_has (by omega) (by omega) (by omega), bI_some, b01_ite, show ((y : Nat) : Int).toNat = y from rfl, ia_eq (x := (y : Int)) (by omega) (by omega)]
      by_cases B : S.testBit y = true
      · rw [if_pos B, if_pos rfl, if_pos B, if_pos rfl, Cab_firsts h (show y < n by omega) hS, bI_some, Cab_firsts h (show y < n by omega) hS, bI_some, if_neg (show ¬ sumI τ L < fF n L τ ρ y S by omega)]
        exact J j (y + 1) y (by omega) (by omega) B
      · rw [if_neg B, if_neg (show ¬ (0 : Int) = 1 by omega), if_neg B]
        refine ih (y + 1) (by omega) ?_
        obtain ⟨c, h1, h2, h3⟩ := hc
        refine ⟨c, ?_, h2, h3⟩
        by_cases e : c = y
        · rw [e] at h3; exact absurd h3 B
        · omega
  rw [m_Cabinet_fewestOf_eq, (Cab_all h).1, bI_some]
  obtain ⟨c, h1, h2⟩ := hb
  exact K n 0 (by omega) ⟨c, by omega, h1, h2⟩
theorem Cab_byRounds {M N : pz_M} {n L : Nat} {τ : Nat → Int} {ρ : Nat → Nat → Int} (hL : 0 < L) (h : blt M N n L τ ρ) : ∃ r, m_Cabinet_byRounds M = some (some (pzI r), M) ∧ m_Mod_byRounds N = some (some (pzI r), N) := by
  have h' := h
  obtain ⟨a1, a2, a3, a4, a5, a6, a7, a8, a9, a10⟩ := h'
  have O : ∀ (j x S : Nat) (w2 w3 : pz_V), x + j = n → 1 ≤ x → S < 64 → (∀ c, c < 6 → S.testBit c = true → c < n) → popN S 24 = (n : Int) - x + 1 → ∃ r, m_Cabinet_byRounds_11 (S : Int) (x : Int) M = some (some (pzI r), M) ∧ m_Mod_byRounds_9 (S : Int) w2 w3 N = some (some (pzI r), N) := by
    intro j
    induction j with
    | zero =>
      intro x S w2 w3 hj x1 hS hb hp
      obtain ⟨⟨r, hr⟩, er⟩ := one_bit ⟨S, hS⟩ (by show popN S 24 = 1; omega)
      have er' : S = 2 ^ r := er
      have hrb : S.testBit r = true := by rw [er', Nat.testBit_two_pow, decide_eq_true_eq]
      have hrn := hb r hr hrb
      rw [m_Cabinet_byRounds_11_eq, a3, if_neg (show ¬ (x : Int) < n by omega), m_Mod_byRounds_9_eq, Mod_bits (by omega), bI_some, if_neg (show ¬ 1 < popN S 24 by omega)]
      obtain ⟨q, g1, g2⟩ := Mod_firstOn h hS (x := 0) (by omega) (by omega)
      have eq : q = r := by
        rcases g2 with ⟨e, g⟩ | ⟨c, e, gc, gb, gm⟩
        · rw [g r hrn] at hrb; exact Bool.noConfusion hrb
        · rw [er', Nat.testBit_two_pow, decide_eq_true_eq] at gb
          omega
      rw [g1, bI_some, er', Int_ntz hr, bI_some, eq]
      exact ⟨r, rfl, rfl⟩
    | succ j ih =>
      intro x S w2 w3 hj x1 hS hb hp
      obtain ⟨⟨c, hc⟩, ec⟩ := two_bit ⟨S, hS⟩ (by show 1 ≤ popN S 24; omega)
      obtain ⟨r, r1, r2, r3, r4⟩ := Cab_fewest h hS ⟨c, hb c hc ec, ec⟩
      have e1 := clr_eq ⟨S, hS⟩ ⟨r, by omega⟩
      dsimp only at e1
      rw [m_Cabinet_byRounds_11_eq, a3, if_pos (show (x : Int) < n by omega), r3, bI_some, m_Mod_byRounds_9_eq, Mod_bits (by omega), bI_some, if_pos (show 1 < popN S 24 by omega), r4, e1, ia_eq (by omega) (by omega)]
      have hp2 := clr_pop ⟨S, hS⟩ ⟨r, by omega⟩ r2
      dsimp only at hp2
      exact ih (x + 1) (clr S r) _ _ (by omega) (by omega) (clr_lt ⟨S, hS⟩ ⟨r, by omega⟩) (fun c hc hcb => hb c hc (clr_bit ⟨S, hS⟩ ⟨r, by omega⟩ ⟨c, hc⟩ hcb)) (by omega)
  have hp := full_pop ⟨n, by omega⟩
  dsimp only at hp
  rw [m_Cabinet_byRounds_eq, m_Mod_byRounds_eq, a3, a4, full_eq ⟨n, by omega⟩]
  exact O (n - 1) 1 (2 ^ n - 1) pzN pzN (by omega) (by omega) (full_lt a6) (fun c hc hb => by rw [Nat.testBit_two_pow_sub_one, decide_eq_true_eq] at hb; exact hb) (by omega)
