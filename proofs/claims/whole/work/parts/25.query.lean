/-! ===== questions with sums, twos and the tape ===== -/
theorem Ter_open {M : pz_M} {k kc : Nat} (hk : pz_cls k = 9) (hkc : pz_cls kc = 1) {x : Int} (h0 : 0 ≤ x) (h1 : x < 24) : m_Terrace_openWeight k x kc M = some (some (pzI (if M (k + 1) x.toNat = 10 then 0 else M (kc + 2) x.toNat)), M) := by
  rw [m_Terrace_openWeight_eq _ _ _ _ hk hkc, grd_pos ⟨h0, h1⟩, grd_pos ⟨h0, h1⟩]
  by_cases h : M (k + 1) x.toNat = 10
  · rw [if_pos h, if_pos h]
  · rw [if_neg h, if_neg h]
theorem ag_ofSubject {M N : pz_M} (h : rl M N) (s w : Int) : agree (m_Desk_ofSubject s w M) (m_Mod_ofSubject s w N) := by
  have h' := h
  obtain ⟨ht, ⟨kc, n, hc, hs, hl⟩, -, -, -⟩ := h'
  obtain ⟨c0, c1, c2, c3, c4, hn, c6, c7⟩ := hc
  obtain ⟨⟨r1, r2, r3⟩, -, -⟩ := dk_row c0
  have L : ∀ (j : Nat) (x a b v : Int), 0 ≤ x → x + j = n → 0 ≤ b → b ≤ x → 0 ≤ v → v ≤ 99 * x → a = (if w = 0 then b else v) → ∃ r, m_Desk_ofSubject_26 s w a x M = some (some (pzI r), M) ∧ m_Mod_ofSubject_29 s w b v x N = some (some (pzI r), N) := by
    intro j
    induction j with
    | zero =>
      intro x a b v h0 hj _ _ _ _ ha
      refine ⟨a, by rw [m_Desk_ofSubject_26_eq, if_neg (show ¬ x < M 49 4 by omega)], ?_⟩
      rw [m_Mod_ofSubject_29_eq, if_neg (show ¬ x < N 100 6 by omega), ha]
      by_cases hw : w = 0
      · rw [if_pos hw, if_pos hw]
      · rw [if_neg hw, if_neg hw]
    | succ j ih =>
      intro x a b v h0 hj hb1 hb2 hv1 hv2 ha
      have hv := c7 x.toNat (by omega)
      have hp := hs.1 x.toNat (by omega)
      have h10 : M 50 x.toNat = 10 ↔ N 101 x.toNat = 2 := pl_10 hp.1
      have eX : m_Desk_ofSubject_26 s w a x M = if N 104 x.toNat = s then (if w = 0 then m_Desk_ofSubject_26 s w (a + 1) (x + 1) M else m_Desk_ofSubject_26 s w (a + if M 50 x.toNat = 10 then 0 else N 105 x.toNat) (x + 1) M) else m_Desk_ofSubject_26 s w a (x + 1) M := by
        have hr : 0 ≤ a ∧ a ≤ 99 * x := by rw [ha]; split <;> omega
        rw [m_Desk_ofSubject_26_eq, if_pos (show x < M 49 4 by omega), dk_nat c1, dk_cls c0, r1, r2, r3, grd_pos rfl, grd_pos ⟨rfl, by omega⟩, Ter_open (k := 49) rfl (dk_cls c0) h0 (by omega), bI_some, hv.1, hv.2.2.2.1, ia_eq (x := x) (by omega) (by omega), ia_eq (x := a) (y := 1) (by omega) (by omega)]
        rw [ia_eq (x := a) (by split <;> omega) (by split <;> omega)]
      have eY : m_Mod_ofSubject_29 s w b v x N = if N 104 x.toNat = s then m_Mod_ofSubject_29 s w (b + 1) (v + if M 50 x.toNat = 10 then 0 else N 105 x.toNat) (x + 1) N else m_Mod_ofSubject_29 s w b v (x + 1) N := by
        rw [m_Mod_ofSubject_29_eq, if_pos (show x < N 100 6 by omega), grd_pos (by omega), Mod_isLeft c4 hn, bI_some, b01_ite, grd_pos (by omega), ia_eq (x := x) (by omega) (by omega), ia_eq (x := b) (by omega) (by omega), ia_eq (x := v) (by omega) (by omega)]
        by_cases hd : M 50 x.toNat = 10
        · have hno : ¬ (0 ≤ x ∧ x < (n : Int) ∧ N 101 x.toNat ≠ 2) := fun z => z.2.2 (h10.mp hd)
          rw [if_pos hd, if_neg hno, Int.add_zero]
        · have hyes : 0 ≤ x ∧ x < (n : Int) ∧ N 101 x.toNat ≠ 2 := ⟨h0, by omega, fun z => hd (h10.mpr z)⟩
          rw [if_neg hd, if_pos hyes]
      rw [eX, eY]
      by_cases hsub : N 104 x.toNat = s
      · rw [if_pos hsub, if_pos hsub]
        by_cases hw : w = 0
        · rw [if_pos hw]
          exact ih (x + 1) _ _ _ (by omega) (by omega) (by omega) (by omega) (by split <;> omega) (by split <;> omega) (by rw [if_pos hw] at ha ⊢; omega)
        · rw [if_neg hw]
          exact ih (x + 1) _ _ _ (by omega) (by omega) (by omega) (by omega) (by split <;> omega) (by split <;> omega) (by rw [if_neg hw] at ha ⊢; rw [ha])
      · rw [if_neg hsub, if_neg hsub]
        exact ih (x + 1) _ _ _ (by omega) (by omega) (by omega) (by omega) (by omega) (by omega) ha
  have go : ∃ r, m_Desk_ofSubject_26 s w 0 0 M = some (some (pzI r), M) ∧ m_Mod_ofSubject_29 s w 0 0 0 N = some (some (pzI r), N) := L n 0 0 0 0 (by omega) (by omega) (by omega) (by omega) (by omega) (by omega) (by split <;> rfl)
  obtain ⟨r, g1, g2⟩ := go
  rw [m_Desk_ofSubject_eq, m_Mod_ofSubject_eq, Mod_in, bI_some, Mod_in, bI_some, b01_ite, b01_ite]
  by_cases h1 : 0 ≤ s ∧ s ≤ 15
  · rw [if_neg (show ¬ s < 0 by omega), if_pos (show s < 16 by omega), if_pos h1]
    by_cases hw0 : w = 0
    · rw [if_pos hw0, if_pos (show 0 ≤ w ∧ w ≤ 1 by omega)]
      exact agree_same h r g1 g2
    · rw [if_neg hw0]
      by_cases hw1 : w = 1
      · rw [if_pos hw1, if_pos (show 0 ≤ w ∧ w ≤ 1 by omega)]
        exact agree_same h r g1 g2
      · rw [if_neg hw1, if_neg (show ¬ (0 ≤ w ∧ w ≤ 1) by omega)]
        exact agree_same h _ rfl rfl
  · rw [if_neg h1]
    by_cases h2 : s < 0
    · rw [if_pos h2]; exact agree_same h _ rfl rfl
    · rw [if_neg h2, if_neg (show ¬ s < 16 by omega)]; exact agree_same h _ rfl rfl
theorem ag_numbers {M N : pz_M} (h : rl M N) (x : Int) : agree (m_Desk_numbers x M) (m_Mod_numbers x N) := by
  have h' := h
  obtain ⟨ht, ⟨kc, n, hc, hs, hl⟩, -, -, -⟩ := h'
  obtain ⟨c0, c1, c2, c3, c4, hn, c6, c7⟩ := hc
  have eL : ∀ p : Nat, p < 9 → M 53 p = cntB (fun c => decide (N 101 c = 1 ∧ N 101 (24 + c) = (p : Int))) n := fun p hp => by
    rw [← cnt_pl hs (by omega) (by omega)]
    exact hl p (by omega)
  have eY : ∀ a b y : Int, m_Mod_spread_7 a b y N = if y < 9 then m_Mod_spread_7 (max a (cntB (fun c => decide (N 101 c = 1 ∧ N 101 (24 + c) = y)) n)) (min b (cntB (fun c => decide (N 101 c = 1 ∧ N 101 (24 + c) = y)) n)) (ia y 1) N else some (some (pzI (isb a b)), N) := by
    intro a b y
    rw [m_Mod_spread_7_eq, Mod_casesOf c4 hn, bI_some, Mod_bits (mskN_31 _ (by omega)), popN_msk _ hn, bI_some, Mod_max, bI_some, Mod_casesOf c4 hn, bI_some, Mod_bits (mskN_31 _ (by omega)), popN_msk _ hn, bI_some, Mod_min, bI_some]
  have eX : ∀ a b y : Int, m_Terrace_spread_16 49 a b y M = if y < 9 then grd (0 ≤ y ∧ y < 11) (m_Terrace_spread_16 49 (max a (M 53 y.toNat)) (min b (M 53 y.toNat)) (ia y 1) M) else some (some (pzI (isb a b)), M) := by
    intro a b y
    rw [m_Terrace_spread_16_eq _ _ _ _ _ rfl, Math_max, bI_some, Math_min, bI_some]
    by_cases hy : 0 ≤ y ∧ y < 11
    · simp only [grd_pos hy]
    · simp only [grd_neg hy]
  have L : ∀ (j : Nat) (y a b : Int), 0 ≤ y → y + j = 9 → ∃ r, m_Terrace_spread_16 49 a b y M = some (some (pzI r), M) ∧ m_Mod_spread_7 a b y N = some (some (pzI r), N) := by
    intro j
    induction j with
    | zero => intro y a b h0 hj; exact ⟨isb a b, by rw [eX, if_neg (show ¬ y < 9 by omega)], by rw [eY, if_neg (show ¬ y < 9 by omega)]⟩
    | succ j ih =>
      intro y a b h0 hj
      have e := eL y.toNat (by omega)
      rw [show ((y.toNat : Nat) : Int) = y by omega] at e
      rw [eX, if_pos (show y < 9 by omega), grd_pos (by omega), eY, if_pos (show y < 9 by omega), ia_eq (by omega) (by omega), e]
      exact ih (y + 1) _ _ (by omega) (by omega)
  rw [m_Desk_numbers_eq, m_Mod_numbers_eq]
  by_cases x0 : x = 0
  · rw [if_pos x0, if_pos x0]
    obtain ⟨r, g1, g2⟩ := L 8 1 (M 53 0) (M 53 0) (by omega) (by omega)
    have e := eL 0 (by omega)
    have hb := cntB_le (fun c => decide (N 101 c = 1 ∧ N 101 (24 + c) = (0 : Int))) n
    have e2 : m_Mod_spread N = some (some (pzI r), N) := by
      rw [m_Mod_spread_eq, eY, if_pos (show (0 : Int) < 9 by omega), ia_eq (by omega) (by omega)]
      have e' : M 53 0 = cntB (fun c => decide (N 101 c = 1 ∧ N 101 (24 + c) = (0 : Int))) n := e
      rw [← e'] at hb ⊢
      rw [show max 0 (M 53 0) = M 53 0 by omega, show min 24 (M 53 0) = M 53 0 by omega]
      exact g2
    rw [e2, bI_some, m_Terrace_spread_eq _ _ rfl]
    have g1' : m_Terrace_spread_16 49 (M (49 + 4) 0) (M (49 + 4) 0) 1 M = some (some (pzI r), M) := g1
    rw [g1', bI_some]
    exact agree_same h r rfl rfl
  rw [if_neg x0, if_neg x0]
  by_cases x1 : x = 1
  · rw [if_pos x1, if_pos x1, dk_nat c1, grd_pos (dk_cls c0)]
    have In : ∀ (j : Nat) (y x a : Int), 0 ≤ y → y + j = x → 0 ≤ x → x < n → 0 ≤ a → a ≤ x * 24 + y → ∃ a', 0 ≤ a' ∧ a' ≤ x * 24 + x ∧ m_Docket_alike_14 kc a x y M = m_Docket_alike_4 kc a' (x + 1) (pzI x) M ∧ m_Mod_alikeTwos_14 a x y N = m_Mod_alikeTwos_4 a' (x + 1) (pzI x) N := by
      intro j
      induction j with
      | zero =>
        intro y x a h0 hj hx0 hxn ha1 ha2
        have e : y = x := by omega
        subst e
        refine ⟨a, ha1, ha2, ?_, ?_⟩
        · rw [m_Docket_alike_14_eq _ _ _ _ _ (dk_cls c0), if_neg (show ¬ y < y by omega), ia_eq (by omega) (by omega)]
        · rw [m_Mod_alikeTwos_14_eq, if_neg (show ¬ y < y by omega), ia_eq (by omega) (by omega)]
      | succ j ih =>
        intro y x a h0 hj hx0 hxn ha1 ha2
        have v1 := (c7 x.toNat (by omega)).1
        have v2 := (c7 y.toNat (by omega)).1
        rw [m_Docket_alike_14_eq _ _ _ _ _ (dk_cls c0), if_pos (show y < x by omega), grd_pos (by omega), grd_pos (by omega), v1, v2, m_Mod_alikeTwos_14_eq, if_pos (show y < x by omega), grd_pos (by omega), grd_pos (by omega), ia_eq (x := y) (by omega) (by omega), ia_eq (x := a) (by omega) (by omega)]
        by_cases he : N 104 x.toNat = N 104 y.toNat
        · rw [if_pos he, if_pos he]
          exact ih (y + 1) x (a + 1) (by omega) (by omega) hx0 hxn (by omega) (by omega)
        · rw [if_neg he, if_neg he]
          exact ih (y + 1) x a (by omega) (by omega) hx0 hxn (by omega) (by omega)
    have Out : ∀ (j : Nat) (x a : Int) (w1 w2 : pz_V), 0 ≤ x → x + j = n → 0 ≤ a → a ≤ x * 24 → ∃ r, m_Docket_alike_4 kc a x w1 M = some (some (pzI r), M) ∧ m_Mod_alikeTwos_4 a x w2 N = some (some (pzI r), N) := by
      intro j
      induction j with
      | zero => intro x a w1 w2 h0 hj ha1 ha2; exact ⟨a, by rw [m_Docket_alike_4_eq _ _ _ _ _ (dk_cls c0), if_neg (show ¬ x < M kc 5 by omega)], by rw [m_Mod_alikeTwos_4_eq, if_neg (show ¬ x < N 100 6 by omega)]⟩
      | succ j ih =>
        intro x a w1 w2 h0 hj ha1 ha2
        obtain ⟨a', b1, b2, b3, b4⟩ := In x.toNat 0 x a (by omega) (by omega) h0 (by omega) ha1 (by omega)
        rw [m_Docket_alike_4_eq _ _ _ _ _ (dk_cls c0), if_pos (show x < M kc 5 by omega), b3, m_Mod_alikeTwos_4_eq, if_pos (show x < N 100 6 by omega), b4]
        exact ih (x + 1) a' _ _ (by omega) (by omega) b1 (by omega)
    obtain ⟨r, g1, g2⟩ := Out n 0 0 pzN pzN (by omega) (by omega) (by omega) (by omega)
    rw [m_Docket_alike_eq _ _ (dk_cls c0), g1, bI_some, m_Mod_alikeTwos_eq, g2, bI_some]
    exact agree_same h r rfl rfl
  rw [if_neg x1, if_neg x1]
  exact agree_same h _ rfl rfl
