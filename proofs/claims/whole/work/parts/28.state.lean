/-! ===== say, keep, undo ===== -/
theorem Mod_goesTo {N : pz_M} {x p : Int} (h0 : 0 ≤ x) (h1 : x < 24) : m_Mod_goesTo x p N = some (none, pz_wr (pz_wr N 101 x.toNat 1) 101 (24 + x.toNat) p) := by
  rw [m_Mod_goesTo_eq, ia_eq (by omega) (by omega), Int.zero_add, grd_pos (by omega), bM_eq, ia_eq (by omega) (by omega), grd_pos (by omega), bM_eq, show (24 + x).toNat = 24 + x.toNat by omega]
theorem ter_move {M N N' : pz_M} {k w n c : Nat} {q : Int} (h : rl_ter M N k w n) (hn : n ≤ 24) (hc : c < n) (hN : ∀ i, i ≠ c → i ≠ 24 + c → N' w i = N w i) (hpl : rl_pl q (N' w c) (N' w (24 + c))) : rl_ter (gv M k c q) N' k w n := by
  obtain ⟨a, b, c1, c2, c3, d1, d2, d3⟩ := h
  have e2 : gv M k c q (k + 2) = M (k + 2) := gv_else (by omega) (by omega)
  have e3 : gv M k c q (k + 3) = M (k + 3) := gv_else (by omega) (by omega)
  have e0 : gv M k c q k = M k := gv_else (by omega) (by omega)
  unfold rl_ter
  rw [e2, e3, e0, hN 81 (by omega) (by omega), hN 82 (by omega) (by omega)]
  refine ⟨fun c' hc' => ?_, fun p hp => ?_, c1, c2, c3, d1, d2, d3⟩
  · rw [gv_row, hN (48 + c') (by omega) (by omega)]
    refine ⟨?_, (a c' hc').2⟩
    show rl_pl (if c' = c then q else M (k + 1) c') _ _
    by_cases e : c' = c
    · subst e
      rw [if_pos (rfl : c' = c')]
      exact hpl
    · rw [if_neg e, hN c' e (by omega), hN (24 + c') (by omega) (by omega)]
      exact (a c' hc').1
  · rw [hN (72 + p) (by omega) (by omega)]
    exact b p hp
theorem gv_kXn {M : pz_M} {c : Nat} {q : Int} : kXn M (gv M 49 c q) := by
  refine ⟨fun a i _ h => ?_, ?_⟩
  · rw [gv_else (by omega) (by omega)]
  · rw [gv_else (by omega) (by omega)]
theorem Ter_hasEye {M : pz_M} {k : Nat} (hk : pz_cls k = 9) {p : Int} (h0 : 0 ≤ p) (h1 : p ≤ 10) : m_Terrace_hasEye k p M = some (some (pzI (b01 (M (k + 4) p.toNat < 12))), M) := by
  rw [m_Terrace_hasEye_eq _ _ _ hk, grd_pos (by omega)]
  unfold b01
  split <;> rfl
theorem ag_say {M N : pz_M} (h : rl M N) (x p : Int) : agree (m_Desk_say x p M) (m_Mod_say x p N) := by
  have h' := h
  obtain ⟨ht, ⟨kc, n, hc, hs, hl⟩, -, -, -⟩ := h'
  obtain ⟨c0, c1, c2, c3, c4, hn, c6, c7⟩ := hc
  rw [m_Desk_say_eq, m_Mod_say_eq, Desk_isCase c3, Mod_isCase c4 hn, bI_some, bI_some, b01_ite, b01_ite]
  by_cases hx : 0 ≤ x ∧ x < (n : Int)
  · rw [if_pos hx, if_pos hx, Desk_isPeacock, bI_some, b01_ite, Mod_in, bI_some, b01_ite]
    by_cases hp : 0 ≤ p ∧ p ≤ 8
    · rw [if_pos hp, if_pos hp, Ter_hasEye rfl hp.1 (by omega), bI_some, b01_ite, Mod_casesOf c4 hn, bI_some, Mod_bits (mskN_31 _ (by omega)), popN_msk _ hn, bI_some, ← cnt_pl hs hp.1 hp.2]
      have e : M (49 + 4) p.toNat = cntI (M (49 + 1)) p n := by
        have := hl p.toNat (by omega)
        rw [show ((p.toNat : Nat) : Int) = p by omega] at this
        exact this
      rw [e]
      by_cases he : cntI (M (49 + 1)) p n < 12
      · rw [if_pos he, if_pos he, Ter_give (n := n) rfl hn (fun c hc => pl_rg (hs.1 c hc).1) hl hx.1 hx.2 hp.1 (by omega), bV_some, Mod_goesTo hx.1 (by omega), bV_some]
        refine ⟨1, _, _, rfl, rfl, rl_now h gv_kXn (((kYn.rf N).wr (Or.inr rfl)).wr (Or.inr rfl)) (fun n2 hn2 _ => ?_)⟩
        have e2 : n2 = n := by rw [hn2] at c4; omega
        subst e2
        refine ⟨ter_move hs hn (by omega) (fun i a b => ?_) ?_, gv_load hl (by omega)⟩
        · rw [wr_idx b, wr_idx a]
        · rw [wr_idx (show x.toNat ≠ 24 + x.toNat by omega), wr_same, wr_same]
          exact Or.inr (Or.inr ⟨hp.1, hp.2, rfl, rfl⟩)
      · rw [if_neg he, if_neg he]
        exact agree_same h _ rfl rfl
    · rw [if_neg hp, if_neg hp]
      exact agree_same h _ rfl rfl
  · rw [if_neg hx, if_neg hx]
    exact agree_same h _ rfl rfl
/-- a row is filled -/
theorem Arrays_fill {M : pz_M} {k : Nat} (hk : pz_cls k = 20) (hl : pz_len k ≤ 1000) (v : Int) : ∃ M', m_Arrays_fill k v M = some (none, M') ∧ (∀ i, i < pz_len k → M' k i = v) ∧ ∀ c i, ¬ (c = k ∧ i < pz_len k) → M' c i = M c i := by
  have L : ∀ (j : Nat) (x : Int) (M1 : pz_M), 0 ≤ x → x + j = pz_len k → (∀ i : Nat, (i : Int) < x → M1 k i = v) → (∀ c i, ¬ (c = k ∧ i < pz_len k) → M1 c i = M c i) → ∃ M', m_Arrays_fill_5 k v x (pz_len k) M1 = some (none, M') ∧ (∀ i, i < pz_len k → M' k i = v) ∧ ∀ c i, ¬ (c = k ∧ i < pz_len k) → M' c i = M c i := by
    intro j
    induction j with
    | zero =>
      intro x M1 h0 hj h1 h2
      exact ⟨M1, by rw [m_Arrays_fill_5_eq _ _ _ _ _ hk, if_neg (show ¬ x < (pz_len k : Int) by omega)], fun i hi => h1 i (by omega), h2⟩
    | succ j ih =>
      intro x M1 h0 hj h1 h2
      rw [m_Arrays_fill_5_eq _ _ _ _ _ hk, if_pos (show x < (pz_len k : Int) by omega), grd_pos (by omega), bM_eq, ia_eq (by omega) (by omega)]
      refine ih (x + 1) _ (by omega) (by omega) (fun i hi => ?_) (fun c i z => ?_)
      · rw [wr_at]
        by_cases e : i = x.toNat
        · rw [if_pos e]
        · rw [if_neg e]; exact h1 i (by omega)
      · unfold pz_wr
        rw [if_neg (fun y => z ⟨y.1, by omega⟩)]
        exact h2 c i z
  rw [m_Arrays_fill_eq _ _ _ hk]
  exact L (pz_len k) 0 M (by omega) (by omega) (fun i hi => by omega) (fun _ _ _ => rfl)
theorem Ter_loads {M : pz_M} {k n : Nat} (hk : pz_cls k = 9) (h4 : M k 4 = n) (hn : n ≤ 24) (hp : ∀ c, c < n → 0 ≤ M (k + 1) c ∧ M (k + 1) c ≤ 10) : ∃ M', m_Terrace_countLoads k M = some (none, M') ∧ rl_load M' k n ∧ ∀ c i, c ≠ k + 4 → M' c i = M c i := by
  have hl4 : pz_len (k + 4) = 11 := al_9_3 hk
  obtain ⟨M1, f1, f2, f3⟩ := Arrays_fill (M := M) (ac_9_3 hk) (by rw [hl4]; omega) 0
  rw [hl4] at f2 f3
  have L : ∀ (j : Nat) (x : Int) (M2 : pz_M), 0 ≤ x → x + j = n → (∀ q, q < 11 → M2 (k + 4) q = cntI (M (k + 1)) q x.toNat) → (∀ c i, c ≠ k + 4 → M2 c i = M c i) → ∃ M', m_Terrace_countLoads_10 k x M2 = some (none, M') ∧ (∀ q, q < 11 → M' (k + 4) q = cntI (M (k + 1)) q n) ∧ ∀ c i, c ≠ k + 4 → M' c i = M c i := by
    intro j
    induction j with
    | zero =>
      intro x M2 h0 hj g1 g2
      exact ⟨M2, by rw [m_Terrace_countLoads_10_eq _ _ _ hk, g2 k 4 (by omega), if_neg (show ¬ x < M k 4 by omega)], fun q hq => by rw [g1 q hq, show x.toNat = n by omega], g2⟩
    | succ j ih =>
      intro x M2 h0 hj g1 g2
      have hpx := hp x.toNat (by omega)
      have hb := cntI_le (M (k + 1)) (((M (k + 1) x.toNat).toNat : Nat) : Int) x.toNat
      rw [m_Terrace_countLoads_10_eq _ _ _ hk, g2 k 4 (by omega), if_pos (show x < M k 4 by omega), grd_pos (by omega), g2 (k + 1) x.toNat (by omega), grd_pos (by omega), grd_pos (by omega), bM_eq, g1 _ (by omega), ia_eq (by omega) (by omega), ia_eq (by omega) (by omega)]
      refine ih (x + 1) _ (by omega) (by omega) (fun q hq => ?_) (fun c i z => ?_)
      · rw [wr_at, show (x + 1).toNat = x.toNat + 1 by omega]
        show _ = cntI (M (k + 1)) q x.toNat + _
        by_cases e : q = (M (k + 1) x.toNat).toNat
        · rw [if_pos e, if_pos (show M (k + 1) x.toNat = (q : Int) by omega), ← e]
        · rw [if_neg e, if_neg (show ¬ M (k + 1) x.toNat = (q : Int) by omega), g1 q hq]
          omega
      · rw [wr_cell z]
        exact g2 c i z
  obtain ⟨M', a, b, c⟩ := L n 0 M1 (by omega) (by omega) (fun q hq => by rw [f2 q hq]; rfl) (fun c i z => f3 c i (fun y => z y.1))
  refine ⟨M', by rw [m_Terrace_countLoads_eq _ _ hk, f1, bV_some]; exact a, fun q hq => ?_, c⟩
  rw [b q hq, show M' (k + 1) = M (k + 1) from funext fun i => c (k + 1) i (by omega)]
theorem cpy_at {M : pz_M} {k0 k1 n c i : Nat} : pz_cpy M k0 k1 0 0 n c i = if c = k1 ∧ i < n then M k0 i else M c i := by
  unfold pz_cpy
  by_cases h : c = k1 ∧ i < n
  · rw [if_pos ⟨h.1, by omega, by omega⟩, if_pos h, show 0 + (i - 0) = i by omega]
  · rw [if_neg (fun z => h ⟨z.1, by omega⟩), if_neg h]
theorem Ter_back {M : pz_M} {k0 k1 n0 n1 : Nat} (hk0 : pz_cls k0 = 9) (hk1 : pz_cls k1 = 9) (hne : k0 ≠ k1) (h0 : M k0 4 = n0) (h1 : M k1 4 = n1) (hn0 : n0 ≤ 24) (hn1 : n1 ≤ 24) (hp : ∀ c, c < n0 → if c < n1 then 0 ≤ M (k1 + 1) c ∧ M (k1 + 1) c ≤ 10 else 0 ≤ M (k0 + 1) c ∧ M (k0 + 1) c ≤ 10) :
    ∃ M', m_Terrace_goBackTo k0 k1 M = some (none, M') ∧ (∀ i, M' (k0 + 1) i = if i < min n0 n1 then M (k1 + 1) i else M (k0 + 1) i) ∧ (∀ i, M' (k0 + 2) i = if i < min n0 n1 then M (k1 + 2) i else M (k0 + 2) i) ∧ (∀ i, M' (k0 + 3) i = if i < 9 then M (k1 + 3) i else M (k0 + 3) i) ∧ M' k0 5 = M k1 5 ∧ M' k0 6 = M k1 6 ∧ (∀ i, i ≠ 5 → i ≠ 6 → M' k0 i = M k0 i) ∧ rl_load M' k0 n0 ∧ ∀ c i, ¬ (k0 ≤ c ∧ c ≤ k0 + 4) → M' c i = M c i := by
  have c0 := ci_9 hk0
  have c1 := ci_9 hk1
  have hmin : min (n0 : Int) (n1 : Int) = ((min n0 n1 : Nat) : Int) := by omega
  rw [m_Terrace_goBackTo_eq _ _ _ hk0 hk1, Math_min, bI_some, h0, h1, hmin, grd_pos (by omega), bM_eq, grd_pos (by omega), bM_eq, grd_pos (by decide), bM_eq, bM_eq, bM_eq, Int.toNat_natCast]
  generalize hM5 : pz_cpy (pz_cpy (pz_cpy M (k1 + 1) (k0 + 1) 0 0 (min n0 n1)) (k1 + 2) (k0 + 2) 0 0 (min n0 n1)) (k1 + 3) (k0 + 3) 0 0 9 = M5
  have r : ∀ c i, M5 c i = if c = k0 + 3 ∧ i < 9 then M (k1 + 3) i else if c = k0 + 2 ∧ i < min n0 n1 then M (k1 + 2) i else if c = k0 + 1 ∧ i < min n0 n1 then M (k1 + 1) i else M c i := by
    intro c i
    rw [← hM5, cpy_at, cpy_at, cpy_at, cpy_at, cpy_at, cpy_at, cpy_at]
    by_cases a3 : c = k0 + 3 ∧ i < 9
    · rw [if_pos a3, if_pos a3, if_neg (show ¬ (k1 + 3 = k0 + 2 ∧ i < min n0 n1) by omega), if_neg (show ¬ (k1 + 3 = k0 + 1 ∧ i < min n0 n1) by omega)]
    · rw [if_neg a3, if_neg a3]
      by_cases a2 : c = k0 + 2 ∧ i < min n0 n1
      · rw [if_pos a2, if_pos a2, if_neg (show ¬ (k1 + 2 = k0 + 1 ∧ i < min n0 n1) by omega)]
      · rw [if_neg a2, if_neg a2]
  have q5 : M5 k1 5 = M k1 5 := by rw [r, if_neg (by omega), if_neg (by omega), if_neg (by omega)]
  have q6 : pz_wr M5 k0 5 (M5 k1 5) k1 6 = M k1 6 := by rw [wr_cell (Ne.symm hne), r, if_neg (by omega), if_neg (by omega), if_neg (by omega)]
  rw [q6, q5]
  generalize hM7 : pz_wr (pz_wr M5 k0 5 (M k1 5)) k0 6 (M k1 6) = M7
  have s : ∀ c i, c ≠ k0 → M7 c i = M5 c i := fun c i z => by rw [← hM7, wr_cell z, wr_cell z]
  have s5 : M7 k0 5 = M k1 5 := by rw [← hM7, wr_idx (by decide), wr_same]
  have s6 : M7 k0 6 = M k1 6 := by rw [← hM7, wr_same]
  have so : ∀ i, i ≠ 5 → i ≠ 6 → M7 k0 i = M k0 i := fun i a b => by rw [← hM7, wr_idx b, wr_idx a, r, if_neg (by omega), if_neg (by omega), if_neg (by omega)]
  have p1 : ∀ i, M7 (k0 + 1) i = if i < min n0 n1 then M (k1 + 1) i else M (k0 + 1) i := by
    intro i
    rw [s _ _ (by omega), r, if_neg (by omega), if_neg (by omega)]
    by_cases a : i < min n0 n1
    · rw [if_pos ⟨rfl, a⟩, if_pos a]
    · rw [if_neg (fun z => a z.2), if_neg a]
  have p2 : ∀ i, M7 (k0 + 2) i = if i < min n0 n1 then M (k1 + 2) i else M (k0 + 2) i := by
    intro i
    rw [s _ _ (by omega), r, if_neg (by omega)]
    by_cases a : i < min n0 n1
    · rw [if_pos ⟨rfl, a⟩, if_pos a]
    · rw [if_neg (fun z => a z.2), if_neg (by omega), if_neg a]
  have p3 : ∀ i, M7 (k0 + 3) i = if i < 9 then M (k1 + 3) i else M (k0 + 3) i := by
    intro i
    rw [s _ _ (by omega), r]
    by_cases a : i < 9
    · rw [if_pos ⟨rfl, a⟩, if_pos a]
    · rw [if_neg (fun z => a z.2), if_neg (by omega), if_neg (by omega), if_neg a]
  obtain ⟨M', g1, g2, g3⟩ := Ter_loads (M := M7) (n := n0) hk0 (by rw [so 4 (by decide) (by decide)]; exact h0) hn0 (fun c hc => by
    rw [p1]
    have := hp c hc
    by_cases a : c < n1
    · rw [if_pos a] at this
      rw [if_pos (by omega)]
      exact this
    · rw [if_neg a] at this
      rw [if_neg (by omega)]
      exact this)
  rw [g1, bV_some]
  refine ⟨M', rfl, fun i => by rw [g3 _ _ (by omega)]; exact p1 i, fun i => by rw [g3 _ _ (by omega)]; exact p2 i, fun i => by rw [g3 _ _ (by omega)]; exact p3 i, by rw [g3 _ _ (by omega)]; exact s5, by rw [g3 _ _ (by omega)]; exact s6, fun i a b => by rw [g3 _ _ (by omega)]; exact so i a b, g2, fun c i z => ?_⟩
  rw [g3 c i (by omega), s c i (by omega), r, if_neg (by omega), if_neg (by omega), if_neg (by omega)]
