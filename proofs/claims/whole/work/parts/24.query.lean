/-! ===== more questions ===== -/
theorem dk_cls {kc : Nat} (h : kc = 1 ∨ kc = 7) : pz_cls kc = 1 := by rcases h with rfl | rfl <;> rfl
theorem dk_nat {M : pz_M} {kc : Nat} (h : M 0 0 = kc) : (M 0 0).toNat = kc := by rw [h]; rfl
theorem dk_row {kc : Nat} (h : kc = 1 ∨ kc = 7) : (pz_ref kc 0 = kc + 1 ∧ pz_cls (kc + 1) = 20 ∧ pz_len (kc + 1) = 24) ∧ (pz_ref kc 1 = kc + 2 ∧ pz_cls (kc + 2) = 20 ∧ pz_len (kc + 2) = 24) ∧ (pz_ref kc 2 = kc + 3 ∧ pz_cls (kc + 3) = 20 ∧ pz_len (kc + 3) = 24) := by rcases h with rfl | rfl <;> decide
theorem ag_caseIs {M N : pz_M} (h : rl M N) (x y : Int) : agree (m_Desk_caseIs x y M) (m_Mod_caseIs x y N) := by
  have h' := h
  obtain ⟨ht, ⟨kc, n, hc, hs, hl⟩, -, -, -⟩ := h'
  obtain ⟨c0, c1, c2, c3, c4, hn, c6, c7⟩ := hc
  obtain ⟨⟨r1, r2, r3⟩, ⟨r4, r5, r6⟩, ⟨r7, r8, r9⟩⟩ := dk_row c0
  rw [m_Desk_caseIs_eq, m_Mod_caseIs_eq, Desk_isCase c3, Mod_isCase c4 hn, bI_some, bI_some, b01_ite, b01_ite]
  by_cases hx : 0 ≤ x ∧ x < (n : Int)
  · rw [if_pos hx, if_pos hx, grd_pos (by omega), dk_nat c1, dk_cls c0, r1, r2, r3, r4, r5, r6, r7, r8, r9]
    have hv := c7 x.toNat (by omega)
    have hp := hs.1 x.toNat (by omega)
    rw [ia_eq (x := 0) (by omega) (by omega), Int.zero_add, ia_eq (x := 24) (by omega) (by omega), ia_eq (x := 48) (by omega) (by omega), show (24 + x).toNat = 24 + x.toNat by omega, show (48 + x).toNat = 48 + x.toNat by omega]
    by_cases e0 : y = 0
    · rw [if_pos e0, if_pos e0, grd_pos rfl, grd_pos ⟨rfl, by omega⟩, grd_pos (by omega)]
      exact agree_same h _ rfl (by rw [hv.1])
    rw [if_neg e0, if_neg e0]
    by_cases e1 : y = 1
    · rw [if_pos e1, if_pos e1, grd_pos rfl, grd_pos ⟨rfl, by omega⟩, grd_pos (by omega)]
      exact agree_same h _ rfl (by rw [hv.2.2.2.1])
    rw [if_neg e1, if_neg e1]
    by_cases e2 : y = 2
    · rw [if_pos e2, if_pos e2, grd_pos rfl, grd_pos ⟨rfl, by omega⟩, grd_pos (by omega)]
      exact agree_same h _ rfl (by rw [hv.2.2.2.2.2.2.1])
    rw [if_neg e2, if_neg e2]
    have h9 := pl_9 hp.1
    have h10 := pl_10 hp.1
    have hst := pl_st hp.1
    by_cases e3 : y = 3
    · rw [if_pos e3, if_pos e3, grd_pos (by omega)]
      by_cases p9 : M 50 x.toNat = 9
      · rw [if_pos p9]; exact agree_same h 0 rfl (by rw [h9.mp p9])
      · rw [if_neg p9]
        by_cases p10 : M 50 x.toNat = 10
        · rw [if_pos p10]; exact agree_same h 2 rfl (by rw [h10.mp p10])
        · rw [if_neg p10]
          have := pl_rg hp.1
          exact agree_same h 1 rfl (by rw [hst.mp (by have e : (49 + 1 : Nat) = 50 := rfl; rw [e] at this ⊢; omega)])
    rw [if_neg e3, if_neg e3]
    by_cases e4 : y = 4
    · rw [if_pos e4, if_pos e4, Desk_isPeacock, bI_some, b01_ite, grd_pos (by omega)]
      by_cases p8 : 0 ≤ M 50 x.toNat ∧ M 50 x.toNat ≤ 8
      · rw [if_pos p8, if_pos (hst.mp p8), grd_pos (by omega)]
        exact agree_same h _ rfl (by rw [((pl_at hp.1 p8.1 p8.2).mp rfl).2])
      · rw [if_neg p8, if_neg (fun z => p8 (hst.mpr z))]
        exact agree_same h _ rfl rfl
    rw [if_neg e4, if_neg e4]
    by_cases e5 : y = 5
    · rw [if_pos e5, if_pos e5, grd_pos (by omega), grd_pos (by omega)]
      exact agree_same h _ rfl (by rw [hp.2.1])
    rw [if_neg e5, if_neg e5]
    exact agree_same h _ rfl rfl
  · rw [if_neg hx, if_neg hx]
    exact agree_same h _ rfl rfl
/-! weights of some -/
def sumP (P : Nat → Bool) (f : Nat → Int) : Nat → Int := sumI (fun c => if P c then f c else 0)
theorem sumP_rg {P : Nat → Bool} {f : Nat → Int} {B : Int} (hB : 0 ≤ B) (n : Nat) (h : ∀ c, c < n → 0 ≤ f c ∧ f c ≤ B) : 0 ≤ sumP P f n ∧ sumP P f n ≤ n * B := sumI_rg n (fun c hc => by
  have := h c hc
  split <;> omega)
theorem sumP_at {P : Nat → Bool} {f : Nat → Int} {x : Int} (h : 0 ≤ x) : sumP P f (x + 1).toNat = sumP P f x.toNat + if P x.toNat then f x.toNat else 0 := sumI_at h
theorem Ter_weights {M : pz_M} {k kc n : Nat} (hk : pz_cls k = 9) (hkc : pz_cls kc = 1) (h : M k 4 = n) (hn : n ≤ 24) (hw : ∀ c, c < n → 0 ≤ M (kc + 2) c ∧ M (kc + 2) c ≤ 99) (q : Int) : m_Terrace_weightsAt k q kc M = some (some (pzI (sumP (fun c => decide (M (k + 1) c = q)) (M (kc + 2)) n)), M) := by
  have L : ∀ (j : Nat) (x : Int), 0 ≤ x → x + j = n → m_Terrace_weightsAt_5 k q kc (sumP (fun c => decide (M (k + 1) c = q)) (M (kc + 2)) x.toNat) x M = some (some (pzI (sumP (fun c => decide (M (k + 1) c = q)) (M (kc + 2)) n)), M) := by
    intro j
    induction j with
    | zero => intro x h0 hj; rw [m_Terrace_weightsAt_5_eq _ _ _ _ _ _ hk hkc, if_neg (by omega), show x.toNat = n by omega]
    | succ j ih =>
      intro x h0 hj
      have hs := sumP_rg (P := fun c => decide (M (k + 1) c = q)) (f := M (kc + 2)) (B := 99) (by omega) x.toNat (fun c hc => hw c (by omega))
      have hv := hw x.toNat (by omega)
      have e := sumP_at (P := fun c => decide (M (k + 1) c = q)) (f := M (kc + 2)) h0
      have hi := ih (x + 1) (by omega) (by omega)
      rw [e] at hi
      rw [m_Terrace_weightsAt_5_eq _ _ _ _ _ _ hk hkc, if_pos (by omega), grd_pos (by omega), ia_eq (x := x) (by omega) (by omega)]
      by_cases hp : M (k + 1) x.toNat = q
      · rw [if_pos (decide_eq_true hp)] at hi
        rw [if_pos hp, grd_pos (by omega), ia_eq (by omega) (by omega)]
        exact hi
      · rw [if_neg (by simpa using hp), Int.add_zero] at hi
        rw [if_neg hp]
        exact hi
  rw [m_Terrace_weightsAt_eq _ _ _ _ hk hkc]
  exact L n 0 (by omega) (by omega)
theorem Mod_has {m : Nat} (hm : m < 2147483648) {x : Int} (h0 : 0 ≤ x) (h1 : x < 32) (N : pz_M) : m_Mod_has (m : Int) x N = some (some (pzI (b01 (m.testBit x.toNat = true))), N) := by
  have e : x = ((x.toNat : Nat) : Int) := by omega
  have e2 : ian (ihr (m : Int) x) 1 = if m.testBit x.toNat then 1 else 0 := by
    rw [show ihr (m : Int) x = ihr (m : Int) ((x.toNat : Nat) : Int) by rw [← e]]
    exact bit_nat hm (by omega)
  rw [m_Mod_has_eq, e2]
  unfold b01
  by_cases hb : m.testBit x.toNat = true <;> simp [hb]
theorem Mod_weights {N : pz_M} {n : Nat} (h : N 100 6 = n) (hn : n ≤ 24) (hw : ∀ c, c < n → 0 ≤ N 105 c ∧ N 105 c ≤ 99) (P : Nat → Bool) : m_Mod_weightsOf ((mskN P n : Nat) : Int) N = some (some (pzI (sumP P (N 105) n)), N) := by
  have L : ∀ (j : Nat) (x : Int), 0 ≤ x → x + j = n → m_Mod_weightsOf_4 ((mskN P n : Nat) : Int) (sumP P (N 105) x.toNat) x N = some (some (pzI (sumP P (N 105) n)), N) := by
    intro j
    induction j with
    | zero => intro x h0 hj; rw [m_Mod_weightsOf_4_eq, if_neg (by omega), show x.toNat = n by omega]
    | succ j ih =>
      intro x h0 hj
      have hs := sumP_rg (P := P) (f := N 105) (B := 99) (by omega) x.toNat (fun c hc => hw c (by omega))
      have hv := hw x.toNat (by omega)
      have e := sumP_at (P := P) (f := N 105) h0
      have hi := ih (x + 1) (by omega) (by omega)
      rw [e] at hi
      rw [m_Mod_weightsOf_4_eq, if_pos (by omega), Mod_has (mskN_31 P (by omega)) h0 (by omega), bI_some, b01_ite, mskN_bit, decide_eq_true (show x.toNat < n by omega), Bool.true_and, ia_eq (x := x) (by omega) (by omega)]
      by_cases hp : P x.toNat = true
      · rw [if_pos hp] at hi ⊢
        rw [grd_pos (by omega), ia_eq (by omega) (by omega)]
        exact hi
      · rw [if_neg hp] at hi ⊢
        rw [Int.add_zero] at hi
        exact hi
  rw [m_Mod_weightsOf_eq]
  exact L n 0 (by omega) (by omega)
theorem sumP_congr {P Q : Nat → Bool} {f g : Nat → Int} (n : Nat) (h : ∀ c, c < n → P c = Q c ∧ f c = g c) : sumP P f n = sumP Q g n := sumI_congr n (fun c hc => by rw [(h c hc).1, (h c hc).2])
theorem ag_peacockIs {M N : pz_M} (h : rl M N) (x y : Int) : agree (m_Desk_peacockIs x y M) (m_Mod_peacockIs x y N) := by
  have h' := h
  obtain ⟨ht, ⟨kc, n, hc, hs, hl⟩, -, -, -⟩ := h'
  obtain ⟨c0, c1, c2, c3, c4, hn, c6, c7⟩ := hc
  rw [m_Desk_peacockIs_eq, m_Mod_peacockIs_eq, Desk_isPeacock, Mod_in, bI_some, bI_some, b01_ite, b01_ite]
  by_cases hx : 0 ≤ x ∧ x ≤ 8
  · rw [if_pos hx, if_pos hx]
    by_cases e0 : y = 0
    · rw [if_pos e0, if_pos e0, Ter_bitsAt (n := n) rfl c3 hn, Mod_casesOf c4 hn, bI_some, bI_some]
      exact agree_same h _ rfl (by rw [← msk_pl hs hx.1 hx.2])
    rw [if_neg e0, if_neg e0]
    by_cases e1 : y = 1
    · rw [if_pos e1, if_pos e1, grd_pos (by omega), ia_eq (by omega) (by omega), grd_pos (by omega), show (72 + x).toNat = 72 + x.toNat by omega]
      exact agree_same h _ rfl (by rw [← (hs.2.1 x.toNat (by omega)).1])
    rw [if_neg e1, if_neg e1]
    by_cases e2 : y = 2
    · rw [if_pos e2, if_pos e2, dk_nat c1, Ter_weights (n := n) rfl (dk_cls c0) c3 hn (fun c hc => by have := c7 c hc; omega), Mod_casesOf c4 hn, bI_some, bI_some, Mod_weights c4 hn (fun c hc => by have := c7 c hc; omega), bI_some]
      refine agree_same h _ rfl ?_
      rw [sumP_congr n (fun c hc => ⟨decide_eq_decide.mpr (pl_at (hs.1 c hc).1 hx.1 hx.2), (c7 c hc).2.2.2.1⟩)]
    rw [if_neg e2, if_neg e2]
    exact agree_same h _ rfl rfl
  · rw [if_neg hx, if_neg hx]
    exact agree_same h _ rfl rfl
theorem ag_longest {M N : pz_M} (h : rl M N) : agree (m_Desk_longest M) (m_Mod_longest N) := by
  have h' := h
  obtain ⟨ht, ⟨kc, n, hc, hs, hl⟩, -, -, -⟩ := h'
  obtain ⟨c0, c1, c2, c3, c4, hn, c6, c7⟩ := hc
  have L : ∀ (j : Nat) (x b m : Int), 0 ≤ x → x + j = n → ((b = -2 ∧ m = -1) ∨ (0 ≤ b ∧ b < x ∧ m = M 51 b.toNat)) → ∃ r, m_Desk_longest_7 b m x M = some (some (pzI r), M) ∧ m_Mod_longest_5 b x N = some (some (pzI r), N) := by
    intro j
    induction j with
    | zero => intro x b m h0 hj _; exact ⟨b, by rw [m_Desk_longest_7_eq, if_neg (by omega)], by rw [m_Mod_longest_5_eq, if_neg (by omega)]⟩
    | succ j ih =>
      intro x b m h0 hj hb
      have hp := hs.1 x.toNat (by omega)
      have h10 := pl_10 hp.1
      rw [m_Desk_longest_7_eq, if_pos (show x < M 49 4 by omega), grd_pos (by omega), grd_pos (by omega), grd_pos (by omega), m_Mod_longest_5_eq, if_pos (show x < N 100 6 by omega), Mod_isLeft c4 hn, bI_some, b01_ite, ia_eq (x := x) (by omega) (by omega)]
      by_cases hd : M 50 x.toNat = 10
      · rw [if_pos hd, if_neg (fun z => z.2.2 (h10.mp hd))]
        exact ih (x + 1) b m (by omega) (by omega) (by omega)
      · have hleft : 0 ≤ x ∧ x < (n : Int) ∧ N 101 x.toNat ≠ 2 := ⟨h0, by omega, fun z => hd (h10.mpr z)⟩
        rw [if_neg hd, if_pos hleft]
        have ha : M 51 x.toNat = N 101 (48 + x.toNat) ∧ 0 ≤ M 51 x.toNat ∧ M 51 x.toNat ≤ 9999 := hp.2
        by_cases hb2 : b = -2
        · rw [if_pos hb2, if_pos (show m < M 51 x.toNat by omega)]
          exact ih (x + 1) x _ (by omega) (by omega) (Or.inr ⟨h0, by omega, rfl⟩)
        · have hb3 : 0 ≤ b ∧ b < x ∧ m = M 51 b.toNat := by omega
          have hm := hb3.2.2
          subst hm
          have hq : M 51 b.toNat = N 101 (48 + b.toNat) := (hs.1 b.toNat (by omega)).2.1
          rw [if_neg hb2, ia_eq (x := 48) (y := x) (by omega) (by omega), ia_eq (x := 48) (y := b) (by omega) (by omega), grd_pos (by omega), grd_pos (by omega), show (48 + x).toNat = 48 + x.toNat by omega, show (48 + b).toNat = 48 + b.toNat by omega, ← ha.1, ← hq]
          by_cases hlt : M 51 b.toNat < M 51 x.toNat
          · rw [if_pos hlt, if_pos hlt]
            exact ih (x + 1) x _ (by omega) (by omega) (Or.inr ⟨h0, by omega, rfl⟩)
          · rw [if_neg hlt, if_neg hlt]
            exact ih (x + 1) b _ (by omega) (by omega) (Or.inr ⟨by omega, by omega, rfl⟩)
  obtain ⟨r, h1, h2⟩ := L n 0 (-2) (-1) (by omega) (by omega) (Or.inl ⟨rfl, rfl⟩)
  rw [m_Desk_longest_eq, m_Mod_longest_eq]
  exact agree_same h r h1 h2
