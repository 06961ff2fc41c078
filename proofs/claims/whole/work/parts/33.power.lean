/-! power -/
def od (k : Nat) : Int := (pz_ords.getD k 0).toInt
theorem od_2 : ∀ a b : Fin 8, a.val + b.val ≤ 7 → 0 ≤ od a.val * od b.val ∧ od a.val * od b.val ≤ 5040 := by decide +kernel
theorem od_1 : ∀ a : Fin 8, 1 ≤ od a.val ∧ od a.val ≤ 5040 := by decide +kernel
theorem od_s : ∀ a : Fin 7, imu (od a.val) ((a.val : Int) + 1) = od (a.val + 1) := by decide +kernel
theorem bc_256 : ∀ m : Fin 256, (m_Integer_bitCount ((m.val : Nat) : Int) (fun _ _ => 0)).map (fun r => r.1) = some (some (pzI (popN m.val 24))) := by
  simp only [m_Integer_bitCount_eq]
  decide +kernel
theorem Int_bitCount {m : Nat} (hm : m < 256) (M : pz_M) : m_Integer_bitCount (m : Int) M = some (some (pzI (popN m 24)), M) := by
  have h := bc_256 ⟨m, hm⟩
  rw [m_Integer_bitCount_eq] at h ⊢
  have h2 := Option.some.inj h
  dsimp only at h2
  rw [h2]
theorem Mod_ordersOf {k : Nat} (hk : k < 8) (N : pz_M) : m_Mod_ordersOf (k : Int) N = some (some (pzI (od k)), N) := by
  rw [m_Mod_ordersOf_eq]
  by_cases h0 : k = 0
  · subst h0
    rw [m_Mod_ordersOf_4_eq, if_pos (show ((0 : Nat) : Int) < 2 by omega)]
    rfl
  have L : ∀ (j x : Nat), 1 ≤ x → x + j = k → m_Mod_ordersOf_4 (k : Int) (od x) ((x : Int) + 1) N = some (some (pzI (od k)), N) := by
    intro j
    induction j with
    | zero =>
      intro x x0 hj
      have e : x = k := by omega
      subst e
      rw [m_Mod_ordersOf_4_eq, if_pos (show (x : Int) < x + 1 by omega)]
    | succ j ih =>
      intro x x0 hj
      rw [m_Mod_ordersOf_4_eq, if_neg (show ¬ (k : Int) < x + 1 by omega), od_s ⟨x, by omega⟩, ia_eq (by omega) (by omega)]
      exact ih (x + 1) (by omega) (by omega)
  exact L (k - 1) 1 (by omega) (by omega)
theorem cntB_miss {P : Nat → Bool} {w : Nat} (hP : P w = false) : ∀ n, w < n → cntB P n ≤ (n : Int) - 1 := by
  intro n
  induction n with
  | zero => intro h; omega
  | succ n ih =>
    intro h
    show cntB P n + (if P n then 1 else 0) ≤ _
    by_cases e : n = w
    · subst e
      rw [if_neg (by rw [hP]; exact Bool.false_ne_true)]
      have := (cntB_le P n).2
      omega
    · have := ih (by omega)
      split <;> omega
def pp (m : Nat) : Nat := (popN m 24).toNat
theorem pp_eq (m : Nat) : popN m 24 = (pp m : Int) := by
  have := popN_le m 24
  unfold pp
  omega
theorem pp_lt {m n w : Nat} (hn : n ≤ 8) (hm : m < 2 ^ n) (hw : w < n) (hb : m.testBit w = false) : pp m + 1 ≤ n := by
  have e : popN m 24 = cntB (fun i => m.testBit i) n := by
    rw [popN_cnt, ← cntB_cut (fun i => m.testBit i) n 24 (by omega)]
    apply cntB_congr
    intro c hc
    by_cases h : c < n
    · rw [decide_eq_true h, Bool.true_and]
    · rw [decide_eq_false h, Bool.false_and]
      exact Nat.testBit_lt_two_pow (Nat.lt_of_lt_of_le hm (Nat.pow_le_pow_right (by omega) (by omega)))
  have h2 := cntB_miss (P := fun i => m.testBit i) hb n hw
  have := pp_eq m
  omega
/-- the votes of those in m -/
def pS (v : Nat → Int) (n m : Nat) : Int := sumP (fun i => m.testBit i) v n
def pT (v : Nat → Int) (n : Nat) (q : Int) (m w : Nat) : Int := if m.testBit w = false ∧ pS v n m < q ∧ q ≤ pS v n m + v w then od (pp m) * od (n - 1 - pp m) else 0
def pR (v : Nat → Int) (n : Nat) (q : Int) (w : Nat) : Nat → Int
  | 0 => 0
  | m + 1 => pR v n q w m + pT v n q m w
theorem pT_rg {v : Nat → Int} {n m w : Nat} {q : Int} (hn : n ≤ 8) (hm : m < 2 ^ n) (hw : w < n) : 0 ≤ pT v n q m w ∧ pT v n q m w ≤ 5040 := by
  unfold pT
  split
  · rename_i h
    have := pp_lt hn hm hw h.1
    exact od_2 ⟨pp m, by omega⟩ ⟨n - 1 - pp m, by omega⟩ (by show pp m + (n - 1 - pp m) ≤ 7; omega)
  · omega
theorem pR_rg {v : Nat → Int} {n w : Nat} {q : Int} (hn : n ≤ 8) (hw : w < n) : ∀ m, m ≤ 2 ^ n → 0 ≤ pR v n q w m ∧ pR v n q w m ≤ 5040 * m := by
  intro m
  induction m with
  | zero => intro _; exact ⟨Int.le_refl _, Int.le_refl _⟩
  | succ m ih =>
    intro h
    have h1 := ih (by omega)
    have h2 := pT_rg (v := v) (q := q) hn (show m < 2 ^ n by omega) hw
    show 0 ≤ pR v n q w m + pT v n q m w ∧ pR v n q w m + pT v n q m w ≤ _
    omega
theorem pw8 {n : Nat} (hn : n ≤ 8) : 2 ^ n ≤ 256 := show 2 ^ n ≤ 2 ^ 8 from Nat.pow_le_pow_right (by omega) hn
theorem pS_rg {v : Nat → Int} {n : Nat} (hn : n ≤ 8) (hv : ∀ i, i < n → 0 ≤ v i ∧ v i ≤ 255) (m : Nat) : 0 ≤ pS v n m ∧ pS v n m ≤ 2040 := by
  have := sumP_rg (P := fun i => m.testBit i) (f := v) (B := 255) (by omega) n hv
  unfold pS
  omega
theorem Par_sumOf {M N : pz_M} {n : Nat} {v : Nat → Int} (hv : vts M N n v) {m : Nat} (hm : m < 256) : m_Parties_sumOf (m : Int) M = some (some (pzI (pS v n m)), M) := by
  have h8 := hv.2.1
  have L : ∀ (j : Nat) (x : Int), 0 ≤ x → x + j = n → m_Parties_sumOf_4 (m : Int) (sumP (fun i => m.testBit i) v x.toNat) x M = some (some (pzI (pS v n m)), M) := by
    intro j
    induction j with
    | zero =>
      intro x x0 hj
      have e : x = n := by omega
      subst e
      rw [m_Parties_sumOf_4_eq, hv.1, if_neg (show ¬ (n : Int) < n by omega)]
      rfl
    | succ j ih =>
      intro x x0 hj
      have hx := hv.2.2.1 x.toNat (by omega)
      have hs := sumP_rg (P := fun i => m.testBit i) (f := v) (B := 255) (by omega) x.toNat (fun c hc => (hv.2.2.1 c (by omega)).2)
      have hb := bit_nat (a := m) (n := x.toNat) (by omega) (by omega)
      rw [show ((x.toNat : Nat) : Int) = x by omega] at hb
      have := ih (x + 1) (by omega) (by omega)
      rw [sumP_at x0] at this
      rw [m_Parties_sumOf_4_eq, hv.1, if_pos (show x < n by omega), grd_pos (by omega), hb, hx.1, ia_eq (x := x) (by omega) (by omega), ← this]
      by_cases c : m.testBit x.toNat = true
      · rw [if_pos c, if_pos c, imu_eq (by omega) (by omega), Int.one_mul, ia_eq (by omega) (by omega)]
      · rw [if_neg c, if_neg c, imu_eq (by omega) (by omega), Int.zero_mul, ia_eq (by omega) (by omega)]
  rw [m_Parties_sumOf_eq]
  exact L n 0 (by omega) (by omega)
theorem Par_orders {N : pz_M} {n : Nat} {v : Nat → Int} {q : Int} (q0 : 1 ≤ q) (q1 : q ≤ 2040) : ∀ (j : Nat) (M : pz_M) (m : Nat) (w3 w4 w5 w6 : pz_V), m + j = 2 ^ n → vts M N n v → (∀ i, i < n → M 41 i = pR v n q i m) → ∃ M', m_Parties_countOrders_2 q (m : Int) w3 w4 w5 w6 M = some (none, M') ∧ (∀ i, i < n → M' 41 i = pR v n q i (2 ^ n)) ∧ kX M M' := by
  intro j
  induction j with
  | zero =>
    intro M m w3 w4 w5 w6 hj hv hh
    have h8 := hv.2.1
    have e : m = 2 ^ n := by omega
    subst e
    refine ⟨M, ?_, hh, kX.rf M⟩
    rw [m_Parties_countOrders_2_eq, hv.1, ihl_1 (by omega), if_neg (show ¬ ((2 ^ n : Nat) : Int) < ((2 ^ n : Nat) : Int) by omega)]
  | succ j ih =>
    intro M m w3 w4 w5 w6 hj hv hh
    have h8 := hv.2.1
    have h256 := pw8 h8
    have hpS := pS_rg h8 (fun i hi => (hv.2.2.1 i hi).2) m
    rw [m_Parties_countOrders_2_eq, hv.1, ihl_1 (by omega), if_pos (show (m : Int) < ((2 ^ n : Nat) : Int) by omega), Par_sumOf hv (by omega), bI_some, Int_bitCount (by omega), bI_some, pp_eq]
    have I : ∀ (i : Nat) (M : pz_M) (y : Int) (w6 : pz_V), 0 ≤ y → y + i = n → vts M N n v → (∀ c : Nat, c < n → M 41 c = if (c : Int) < y then pR v n q c (m + 1) else pR v n q c m) → ∃ M', m_Parties_countOrders_27 q (m : Int) (pS v n m) ((pp m : Nat) : Int) y w6 M = some (none, M') ∧ (∀ i, i < n → M' 41 i = pR v n q i (2 ^ n)) ∧ kX M M' := by
      intro i
      induction i with
      | zero =>
        intro M y w6 y0 hi hv hh
        rw [m_Parties_countOrders_27_eq, hv.1, if_neg (show ¬ y < n by omega), ia_eq (by omega) (by omega)]
        exact ih M (m + 1) _ _ _ _ (by omega) hv (fun c hc => by rw [hh c hc, if_pos (by omega)])
      | succ i ih2 =>
        intro M y w6 y0 hi hv hh
        have hx := hv.2.2.1 y.toNat (by omega)
        have hb := bit_nat (a := m) (n := y.toNat) (by omega) (by omega)
        rw [show ((y.toNat : Nat) : Int) = y by omega] at hb
        have hMy := hh y.toNat (by omega)
        rw [if_neg (by omega)] at hMy
        have keep : pT v n q m y.toNat = 0 → ∀ c : Nat, c < n → M 41 c = if (c : Int) < y + 1 then pR v n q c (m + 1) else pR v n q c m := by
          intro z c hc
          rw [hh c hc]
          by_cases e : c = y.toNat
          · rw [if_neg (by omega), if_pos (by omega)]
            show _ = pR v n q c m + pT v n q m c
            rw [e, z, Int.add_zero]
          · by_cases e2 : (c : Int) < y
            · rw [if_pos e2, if_pos (by omega)]
            · rw [if_neg e2, if_neg (by omega)]
        rw [m_Parties_countOrders_27_eq, hv.1, if_pos (show y < n by omega), hb]
        by_cases c : m.testBit y.toNat = true
        · rw [if_pos c, if_neg (show ¬ (1 : Int) = 0 by omega), m_Parties_countOrders_50_eq, if_pos rfl, ia_eq (by omega) (by omega)]
          refine ih2 M (y + 1) _ (by omega) (by omega) hv (keep ?_)
          unfold pT
          rw [if_neg (by rw [c]; exact fun z => Bool.noConfusion z.1)]
        · have c' : m.testBit y.toNat = false := by cases h : m.testBit y.toNat <;> simp_all
          have hpl := pp_lt h8 (by omega) (by omega) c'
          rw [if_neg c, if_pos rfl, m_Parties_countOrders_50_eq, if_neg (show ¬ (1 : Int) = 0 by omega), hx.1, hv.1, ia_eq (x := y) (by omega) (by omega), ia_eq (by omega) (by omega)]
          by_cases a : pS v n m < q
          · rw [if_pos a, grd_pos (by omega)]
            by_cases b : pS v n m + v y.toNat < q
            · rw [if_pos b]
              refine ih2 M (y + 1) _ (by omega) (by omega) hv (keep ?_)
              unfold pT
              rw [if_neg (fun z => by omega)]
            · have eT : pT v n q m y.toNat = od (pp m) * od (n - 1 - pp m) := by unfold pT; rw [if_pos ⟨c', a, by omega⟩]
              have hT := pT_rg (v := v) (q := q) h8 (show m < 2 ^ n by omega) (show y.toNat < n by omega)
              have hR := pR_rg (v := v) (q := q) h8 (show y.toNat < n by omega) m (by omega)
              rw [if_neg b, isb_eq (x := (n : Int)) (by omega) (by omega), isb_eq (by omega) (by omega), grd_pos (by omega), grd_pos (by omega), grd_pos (by omega), grd_pos (by omega), bM_eq, hMy, show ((pp m : Nat) : Int).toNat = pp m from rfl, show ((n : Int) - 1 - (pp m : Int)).toNat = n - 1 - pp m by omega]
              show ∃ M', m_Parties_countOrders_27 q _ _ _ _ _ (pz_wr M 41 y.toNat (ia _ (imu (od (pp m)) (od (n - 1 - pp m))))) = _ ∧ _ ∧ _
              rw [imu_eq (by omega) (by omega), ← eT, ia_eq (by omega) (by omega)]
              obtain ⟨M', g1, g2, g3⟩ := ih2 (pz_wr M 41 y.toNat (pR v n q y.toNat m + pT v n q m y.toNat)) (y + 1) (pzI 1) (by omega) (by omega) (hv.wrX (Or.inr rfl)) (by
                intro c hc
                rw [wr_at]
                by_cases e : c = y.toNat
                · rw [if_pos e, if_pos (by omega), e]; rfl
                · rw [if_neg e, hh c hc]
                  by_cases e2 : (c : Int) < y
                  · rw [if_pos e2, if_pos (by omega)]
                  · rw [if_neg e2, if_neg (by omega)])
              exact ⟨M', g1, g2, ((kX.rf M).wr rfl).tr g3⟩
          · rw [if_neg a]
            refine ih2 M (y + 1) _ (by omega) (by omega) hv (keep ?_)
            unfold pT
            rw [if_neg (fun z => by omega)]
    exact I n M 0 w6 (by omega) (by omega) hv (fun c hc => by rw [hh c hc, if_neg (by omega)])
theorem Mod_reaches {M N : pz_M} {n : Nat} {v : Nat → Int} {q : Int} (hv : vts M N n v) (q0 : 1 ≤ q) (q1 : q ≤ 2040) {w : Nat} (hw : w < n) : m_Mod_reaches (w : Int) n q N = some (some (pzI (pR v n q w (2 ^ n))), N) := by
  have h8 := hv.2.1
  have h256 := pw8 h8
  have hwv := (hv.2.2.1 w hw).2
  have L : ∀ (j : Nat) (m : Nat) (w6 w7 : pz_V), m + j = 2 ^ n → m_Mod_reaches_6 (w : Int) n q (pR v n q w m) (m : Int) w6 w7 N = some (some (pzI (pR v n q w (2 ^ n))), N) := by
    intro j
    induction j with
    | zero =>
      intro m w6 w7 hj
      have e : m = 2 ^ n := by omega
      subst e
      rw [m_Mod_reaches_6_eq, ihl_1 (by omega), if_neg (show ¬ ((2 ^ n : Nat) : Int) < ((2 ^ n : Nat) : Int) by omega)]
    | succ j ih =>
      intro m w6 w7 hj
      have hpS := pS_rg h8 (fun i hi => (hv.2.2.1 i hi).2) m
      have hT := pT_rg (v := v) (q := q) h8 (show m < 2 ^ n by omega) hw
      have hR := pR_rg (v := v) (q := q) h8 hw m (by omega)
      have nx : ∀ w6 w7, m_Mod_reaches_6 (w : Int) n q (pR v n q w m + pT v n q m w) ((m : Int) + 1) w6 w7 N = some (some (pzI (pR v n q w (2 ^ n))), N) := fun w6 w7 => ih (m + 1) w6 w7 (by omega)
      rw [m_Mod_reaches_6_eq, ihl_1 (by omega), if_pos (show (m : Int) < ((2 ^ n : Nat) : Int) by omega), Mod_has (by omega) (by omega) (by omega), bI_some, b01_ite, show ((w : Nat) : Int).toNat = w from rfl]
      by_cases c : m.testBit w = true
      · have eT : pT v n q m w = 0 := by
          unfold pT
          rw [if_neg (by rw [c]; exact fun z => Bool.noConfusion z.1)]
        rw [if_pos c, ia_eq (by omega) (by omega)]
        have := nx w6 w7
        rw [eT, Int.add_zero] at this
        exact this
      · have c' : m.testBit w = false := by cases h : m.testBit w <;> simp_all
        have hpl := pp_lt h8 (by omega) hw c'
        rw [if_neg c]
        have I : ∀ (i : Nat) (y : Int), 0 ≤ y → y + i = n → m_Mod_reaches_32 (w : Int) n q (pR v n q w m) (m : Int) (sumP (fun i => m.testBit i) v y.toNat) y N = some (some (pzI (pR v n q w (2 ^ n))), N) := by
          intro i
          induction i with
          | zero =>
            intro y y0 hi
            have e : y = n := by omega
            subst e
            rw [m_Mod_reaches_32_eq, if_neg (show ¬ (n : Int) < n by omega)]
            show (if pS v n m < q then _ else _) = _
            by_cases a : pS v n m < q
            · rw [if_pos a, hv.oct (by omega) (by omega), bI_some, show ((w : Nat) : Int).toNat = w from rfl]
              show (if ia (pS v n m) (v w) < q then _ else _) = _
              rw [ia_eq (x := pS v n m) (by omega) (by omega)]
              by_cases b : pS v n m + v w < q
              · have eT : pT v n q m w = 0 := by
                  unfold pT
                  rw [if_neg (fun z => by omega)]
                have := nx (pzI (pS v n m)) (pzI n)
                rw [eT, Int.add_zero] at this
                rw [if_pos b, ia_eq (by omega) (by omega)]
                exact this
              · have eT : pT v n q m w = od (pp m) * od (n - 1 - pp m) := by unfold pT; rw [if_pos ⟨c', a, by omega⟩]
                rw [if_neg b, Mod_bits (by omega), bI_some, pp_eq, Mod_ordersOf (by omega), bI_some, Mod_bits (by omega), bI_some, pp_eq, isb_eq (x := (n : Int)) (by omega) (by omega), isb_eq (by omega) (by omega), show (n : Int) - 1 - ((pp m : Nat) : Int) = ((n - 1 - pp m : Nat) : Int) by omega, Mod_ordersOf (by omega), bI_some, imu_eq (by omega) (by omega), ← eT, ia_eq (by omega) (by omega), ia_eq (by omega) (by omega)]
                exact nx _ _
            · have eT : pT v n q m w = 0 := by
                unfold pT
                rw [if_neg (fun z => by omega)]
              have := nx (pzI (pS v n m)) (pzI n)
              rw [eT, Int.add_zero] at this
              rw [if_neg a, ia_eq (by omega) (by omega)]
              exact this
          | succ i ih2 =>
            intro y y0 hi
            have hx := (hv.2.2.1 y.toNat (by omega)).2
            have hs := sumP_rg (P := fun i => m.testBit i) (f := v) (B := 255) (by omega) y.toNat (fun c hc => (hv.2.2.1 c (by omega)).2)
            have := ih2 (y + 1) (by omega) (by omega)
            rw [sumP_at y0] at this
            rw [m_Mod_reaches_32_eq, if_pos (show y < n by omega), Mod_has (by omega) y0 (by omega), bI_some, b01_ite, ia_eq (x := y) (by omega) (by omega), ← this]
            by_cases d : m.testBit y.toNat = true
            · rw [if_pos d, if_pos d, hv.oct y0 (by omega), bI_some, ia_eq (by omega) (by omega)]
            · rw [if_neg d, if_neg d, Int.add_zero]
        exact I n 0 (by omega) (by omega)
  rw [m_Mod_reaches_eq]
  exact L (2 ^ n) 0 pzN pzN (by omega)
theorem ag_power {M N : pz_M} (h : rl M N) (n q w : Int) : agree (m_Desk_power n q w M) (m_Mod_power n q w N) := by
  have hT := h.1
  have eX : m_Desk_power n q w M = m_Desk_power_20 n q w pzN (b01 ((0 ≤ w ∧ w < n) ∨ w = 100)) M := by
    rw [m_Desk_power_eq, m_Desk_power_9_eq, m_Desk_power_15_eq]
    by_cases h1 : w < 0
    · rw [if_pos h1, if_neg (show ¬ w = 100 by omega), b01_f (by omega)]
    · rw [if_neg h1]
      by_cases h2 : w < n
      · rw [if_pos h2, b01_t (by omega)]
      · rw [if_neg h2]
        by_cases h3 : w = 100
        · rw [if_pos h3, b01_t (by omega)]
        · rw [if_neg h3, b01_f (by omega)]
  rw [eX, m_Desk_power_20_eq, m_Mod_power_eq, Tape_take, Mod_in, bI_some, b01_ite, Mod_in, bI_some, b01_ite, Mod_in, bI_some, b01_ite, b01_ite]
  by_cases hn : 2 ≤ n ∧ n ≤ 8
  rotate_left
  · rw [if_neg hn, if_neg (show ¬ (2 ≤ n ∧ n ≤ 8 ∧ n ≤ M 29 1) by omega), bI_some, if_pos rfl]
    simp only [ite_self]
    exact agree_same h _ rfl rfl
  rw [if_pos hn]
  by_cases hq : 1 ≤ q ∧ q ≤ 2040
  rotate_left
  · rw [if_neg hq]
    by_cases h1 : q < 1
    · rw [if_pos h1]; exact agree_same h _ rfl rfl
    · rw [if_neg h1, if_pos (show 2040 < q by omega)]; exact agree_same h _ rfl rfl
  rw [if_pos hq, if_neg (show ¬ q < 1 by omega), if_neg (show ¬ 2040 < q by omega), isb_eq (by omega) (by omega)]
  by_cases hw : (0 ≤ w ∧ w < n) ∨ w = 100
  rotate_left
  · rw [if_neg hw, if_neg (show ¬ (0 ≤ w ∧ w ≤ n - 1) by omega), if_neg (show ¬ w = 100 by omega)]
    exact agree_same h _ rfl rfl
  rw [if_pos hw, show (if 0 ≤ w ∧ w ≤ n - 1 then m_Mod_power_38 n q w pzN pzN N else if w = 100 then m_Mod_power_38 n q w pzN pzN N else some (some (pzI (-1)), N)) = m_Mod_power_38 n q w pzN pzN N by
    by_cases h1 : 0 ≤ w ∧ w ≤ n - 1
    · rw [if_pos h1]
    · rw [if_neg h1, if_pos (show w = 100 by omega)], m_Mod_power_38_eq]
  by_cases hx : n ≤ M 29 1
  rotate_left
  · rw [if_neg (show ¬ (2 ≤ n ∧ n ≤ 8 ∧ n ≤ M 29 1) by omega), bI_some, if_pos rfl, if_pos (show N 100 8 < n by rw [← hT.1]; omega)]
    exact agree_same h _ rfl rfl
  rw [if_pos (show (2 ≤ n ∧ n ≤ 8 ∧ n ≤ M 29 1) by omega), bI_some, if_neg (show ¬ (1 : Int) = 0 by omega), if_neg (show ¬ N 100 8 < n by rw [← hT.1]; omega), bM_eq]
  have h2 := rl_tk h n
  have hend : tk M n 29 3 = n := tk_end
  generalize tk M n = M1 at h2 hend ⊢
  generalize pz_wr N 100 8 0 = N1 at h2 ⊢
  obtain ⟨m, em⟩ : ∃ m : Nat, n = m := ⟨n.toNat, by omega⟩
  subst em
  obtain ⟨M2, g1, g2, g3, g4⟩ := Par_load (M := M1) (N := N1) (n := m) (by omega) hend h2.1.2.2.2
  obtain ⟨M3, p1, p2, p3⟩ := Par_orders (n := m) (q := q) hq.1 hq.2 (2 ^ m) M2 0 pzN pzN pzN pzN (by omega) g2 (fun i hi => by rw [g3 i hi]; rfl)
  have hR := fun (i : Nat) (hi : i < m) => Mod_reaches g2 hq.1 hq.2 hi
  rw [g1, bI_some, m_Parties_countOrders_eq, show (0 : Int) = ((0 : Nat) : Int) from rfl, p1, bV_some]
  by_cases c : w = 100
  · rw [if_pos c, if_pos c, Rck_fom rfl (show m ≤ 8 by omega) (by omega) (by omega), bI_some]
    have L : ∀ (j : Nat) (y : Int) (u : pz_V), 1 ≤ y → y + j = m → m_Mod_power_73 m q u ((fom (fun i => pR (M1 30) m q i (2 ^ m)) y.toNat : Nat) : Int) y N1 = some (some (pzI ((fom (fun i => pR (M1 30) m q i (2 ^ m)) m : Nat) : Int)), N1) := by
      intro j
      induction j with
      | zero =>
        intro y u y0 hj
        have e : y = m := by omega
        subst e
        rw [m_Mod_power_73_eq, if_neg (show ¬ (m : Int) < m by omega)]
        rfl
      | succ j ih =>
        intro y u y0 hj
        have hf := fom_lt (fun i => pR (M1 30) m q i (2 ^ m)) y.toNat (by omega)
        have := ih (y + 1) u (by omega) (by omega)
        rw [fom_at (by omega)] at this
        have r1 := hR y.toNat (by omega)
        rw [show ((y.toNat : Nat) : Int) = y by omega] at r1
        rw [m_Mod_power_73_eq, if_pos (show y < m by omega), r1, bI_some, hR _ (by omega), bI_some, ia_eq (by omega) (by omega), ← this]
        by_cases d : pR (M1 30) m q (fom (fun i => pR (M1 30) m q i (2 ^ m)) y.toNat) (2 ^ m) < pR (M1 30) m q y.toNat (2 ^ m)
        · rw [if_pos d, if_pos d, show ((y.toNat : Nat) : Int) = y by omega]
        · rw [if_neg d, if_neg d]
    have e0 := L (m - 1) 1 (pzI w) (by omega) (by omega)
    rw [show (1 : Int).toNat = 1 from rfl, fom_1] at e0
    rw [e0, fom_congr (f := M3 41) m p2]
    exact ⟨_, M3, N1, rfl, rfl, rl_keep h2 (g4.tr p3) (kY.rf N1)⟩
  · rw [if_neg c, if_neg c, grd_pos (by omega), p2 w.toNat (by omega)]
    have r1 := hR w.toNat (by omega)
    rw [show ((w.toNat : Nat) : Int) = w by omega] at r1
    rw [r1, bI_some]
    exact ⟨_, M3, N1, rfl, rfl, rl_keep h2 (g4.tr p3) (kY.rf N1)⟩
