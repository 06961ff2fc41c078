/-! ===== tried, by when, all quiet ===== -/
theorem tried_59 {M : pz_M} {n : Nat} (h : M 49 4 = n) (hn : n ≤ 24) (x1 x2 : Int) : m_Desk_tried x1 x2 M = m_Desk_tried_59 x1 x2 (b01 (0 ≤ x2 ∧ x2 ≤ 3)) (b01 (10 ≤ x2 ∧ x2 < 19)) pzN (b01 (30 ≤ x2 ∧ x2 < 30 + n)) M := by
  have e3 : ia 30 (M 49 4) = 30 + n := by rw [h]; exact ia_eq (by omega) (by omega)
  have s3 : ∀ (x3 x4 : Int), m_Desk_tried_32 x1 x2 x3 pzN pzN x4 M = m_Desk_tried_59 x1 x2 x3 x4 pzN (b01 (30 ≤ x2 ∧ x2 < 30 + n)) M := by
    intro x3 x4
    rw [m_Desk_tried_32_eq, e3, m_Desk_tried_58_eq]
    unfold b01
    (repeat' split) <;> first | rfl | omega
  have s2 : ∀ (x3 : Int), m_Desk_tried_14 x1 x2 pzN pzN pzN x3 M = m_Desk_tried_32 x1 x2 x3 pzN pzN (b01 (10 ≤ x2 ∧ x2 < 19)) M := by
    intro x3
    rw [m_Desk_tried_14_eq, m_Desk_tried_31_eq]
    unfold b01
    (repeat' split) <;> first | rfl | omega
  have s1 : m_Desk_tried x1 x2 M = m_Desk_tried_14 x1 x2 pzN pzN pzN (b01 (0 ≤ x2 ∧ x2 ≤ 3)) M := by
    rw [m_Desk_tried_eq, m_Desk_tried_13_eq]
    unfold b01
    (repeat' split) <;> first | rfl | omega
  rw [s1, s2, s3]
theorem isb_wrap {x y : Int} (hx : pz_in x) (h0 : 0 ≤ y) (h1 : y ≤ 1000) : isb x y = x - y ∨ (x - y < -2147483648 ∧ isb x y = x - y + 4294967296) := by
  have hr := in_iff.mp hx
  by_cases e : -2147483648 ≤ x - y
  · exact Or.inl (isb_eq e (by omega))
  · refine Or.inr ⟨by omega, ?_⟩
    unfold isb f_sub pzJ
    rw [← Int32.ofInt_sub, Int32.toInt_ofInt]
    show Int.bmod (x - y) 4294967296 = _
    rw [Int.bmod_def]
    have : (x - y) % ((4294967296 : Nat) : Int) = x - y + 4294967296 := by omega
    rw [this, if_pos (by omega)]
theorem tried_core {M N : pz_M} (h : rl M N) {x1 : Int} (hx : 1 ≤ x1 ∧ x1 ≤ 100) {n : Nat} (hn4 : M 49 4 = n) (x2 x4 x5 : Int) (w3 : pz_V) (hc : (x5 = 0 ∧ x4 = 0 ∧ 0 ≤ x2 ∧ x2 ≤ 3) ∨ (x5 = 0 ∧ x4 = 1 ∧ 10 ≤ x2 ∧ x2 ≤ 18) ∨ (x5 = 1 ∧ 30 ≤ x2 ∧ x2 < 30 + n)) : agree (m_Desk_tried_84 x1 x2 w3 x4 x5 M) (m_Mod_tried_45 x1 x2 pzN N) := by
  obtain ⟨kc, n', kr, nr, M1, N1, hn, e4, e6, d0, d24, a1, b1, _, T⟩ := tryS_in h
  have en : n' = n := by rw [hn4] at e4; omega
  subst en
  obtain ⟨M2, N2, c1, c2, c3, c4, c5⟩ := goOn_L x1 hx.2 100 0 _ _ (by omega) T.1
  have c1' : m_Desk_goOn_2 54 x1 0 M1 = some (none, M2) := c1
  have c2' : m_Mod_daysGo_12 x1 0 (pz_wr (pz_wr N1 100 38 0) 100 39 0) = some (none, N2) := c2
  have T2 := tryS_go T c3 c4 c5
  obtain ⟨N', k1, k2⟩ := tryS_back T2
  have hrl : rl M2 N' := rl_keep h T2.2.1 k2
  have fin : ∀ (r : Int) (w1 w2 : pz_V), m_Mod_tried_156 w1 w2 r N2 = some (some (pzI r), N') := fun r w1 w2 => by rw [m_Mod_tried_156_eq, k1, bV_some]
  obtain ⟨p0, p1, p2, p3, p4, p5, p6⟩ := c3
  have q6 : N2 100 6 = n' := p1.2.2.2.2.1
  have hsum : 0 ≤ sumI (M2 57) 9 ∧ sumI (M2 57) 9 ≤ ((9 : Nat) : Int) * 9999 := sumI_rg (f := M2 57) (B := 9999) 9 (fun c hc => ⟨(p3.2.1 c hc).2.1, Int.le_trans (p3.2.1 c hc).2.2 p3.2.2.2.2.1⟩)
  rw [m_Desk_tried_84_eq, a1, bV_some, m_Desk_goOn_eq _ _ _ rfl, c1', bV_some, m_Mod_tried_45_eq, b1, bV_some, m_Mod_daysGo_eq, bM_eq, bM_eq, c2', bV_some]
  rcases hc with ⟨z5, z4, y0, y3⟩ | ⟨z5, z4, y0, y3⟩ | ⟨z5, y0, y3⟩
  · rw [if_pos z5, if_pos z4]
    by_cases e0 : x2 = 0
    · have p6' : M2 58 10 = M 53 10 + N2 100 38 := by
        rcases p6 with z | z
        · omega
        · exact z.1
      have l1 := p4 10 (by omega)
      have l2 := cntI_le (M2 (54 + 1)) ((10 : Nat) : Int) n'
      have l3 : M2 58 10 = cntI (M2 (54 + 1)) ((10 : Nat) : Int) n' := l1
      rw [if_pos e0, if_pos e0, T2.2.1 53 10 (cX_row (by omega)), isb_eq (by omega) (by omega), fin]
      exact ⟨N2 100 38, M2, N', by rw [show M2 58 10 - M 53 10 = N2 100 38 by omega], rfl, hrl⟩
    rw [if_neg e0, if_neg e0]
    by_cases e1 : x2 = 1
    · have p6' : sumI (M2 57) 9 = sumI (M 52) 9 + N2 100 39 := by
        rcases p6 with z | z
        · omega
        · exact z.2.1
      have hs49 : rl_ter M2 N' 49 101 n' := by
        obtain ⟨_, ⟨kc2, n2, r2, r3, r4⟩, _⟩ := hrl
        have : n2 = n' := by have a := r2.2.2.2.1; rw [T2.2.1 49 4 (cX_row (by omega)), e4] at a; omega
        subst this
        exact r3
      have e52 : sumI (M2 52) 9 = sumI (M 52) 9 := sumI_congr 9 (fun c hc => T2.2.1 52 c (cX_row (by omega)))
      have hsum2 : 0 ≤ sumI (M2 52) 9 ∧ sumI (M2 52) 9 ≤ ((9 : Nat) : Int) * 9999 := sumI_rg (f := M2 52) (B := 9999) 9 (fun c hc => ⟨(hs49.2.1 c hc).2.1, Int.le_trans (hs49.2.1 c hc).2.2 hs49.2.2.2.2.1⟩)
      rw [if_pos e1, if_pos e1, Ter_cries rfl (fun p hp => ⟨(p3.2.1 p hp).2.1, Int.le_trans (p3.2.1 p hp).2.2 p3.2.2.2.2.1⟩), bI_some, Ter_cries rfl (fun p hp => ⟨(hs49.2.1 p hp).2.1, Int.le_trans (hs49.2.1 p hp).2.2 hs49.2.2.2.2.1⟩), bI_some, fin]
      refine ⟨N2 100 39, M2, N', ?_, rfl, hrl⟩
      show some (some (pzI (isb (sumI (M2 57) 9) (sumI (M2 52) 9))), M2) = _
      rw [isb_eq (by omega) (by omega), show sumI (M2 57) 9 - sumI (M2 52) 9 = N2 100 39 by omega]
    rw [if_neg e1, if_neg e1]
    by_cases e2 : x2 = 2
    · rw [if_pos e2, if_pos e2, Ter_bitsAt (n := n') rfl p2 hn, bI_some, Mod_inState q6 hn, bI_some, fin]
      exact ⟨_, M2, N', rfl, by rw [← msk_9 p3], hrl⟩
    · rw [if_neg e2, if_neg e2, if_pos (show x2 = 3 by omega), Ter_bitsAt (n := n') rfl p2 hn, bI_some, Mod_inState q6 hn, bI_some, fin]
      exact ⟨_, M2, N', rfl, by rw [← msk_10 p3], hrl⟩
  · rw [if_pos z5, if_neg (show ¬ x4 = 0 by omega), if_neg (show ¬ x2 = 0 by omega), if_neg (show ¬ x2 = 1 by omega), if_neg (show ¬ x2 = 2 by omega), if_neg (show ¬ x2 = 3 by omega), if_pos (show x2 < 30 by omega), isb_eq (by omega) (by omega), Ter_bitsAt (n := n') rfl p2 hn, bI_some, Mod_casesOf q6 hn, bI_some, m_Mod_tried_155_eq, fin]
    exact ⟨_, M2, N', rfl, by rw [← msk_pl p3 (by omega) (by omega)], hrl⟩
  · have e30 : (x2 - 30).toNat < n' := by omega
    have w := (p3.1 _ e30).2.1
    rw [if_neg (show ¬ x5 = 0 by omega), isb_eq (x := x2) (y := 30) (by omega) (by omega), grd_pos (by omega), if_neg (show ¬ x2 = 0 by omega), if_neg (show ¬ x2 = 1 by omega), if_neg (show ¬ x2 = 2 by omega), if_neg (show ¬ x2 = 3 by omega), if_neg (show ¬ x2 < 30 by omega), ia_eq (x := 48) (by omega) (by omega), isb_eq (x := 48 + x2) (by omega) (by omega), grd_pos (by omega), m_Mod_tried_155_eq, fin, show (48 + x2 - 30).toNat = 48 + (x2 - 30).toNat by omega]
    exact ⟨_, M2, N', rfl, by rw [← w], hrl⟩
theorem ag_tried {M N : pz_M} (h : rl M N) (x1 x2 : Int) (hx2 : pz_in x2) : agree (m_Desk_tried x1 x2 M) (m_Mod_tried x1 x2 N) := by
  have h' := h
  obtain ⟨ht, ⟨kc, n, hc, hs, hl⟩, hk, ⟨kr, nr, hr⟩, hpa⟩ := h'
  have hn : n ≤ 24 := hc.2.2.2.2.2.1
  have e4 := hc.2.2.2.1
  have hr2 := in_iff.mp hx2
  have w10 := isb_wrap hx2 (y := 10) (by omega) (by omega)
  have w30 := isb_wrap hx2 (y := 30) (by omega) (by omega)
  rw [tried_59 e4 hn, m_Desk_tried_59_eq, Desk_areDays, bI_some, b01_ite (P := 1 ≤ x1 ∧ x1 ≤ 100), m_Mod_tried_eq, Mod_in, bI_some, b01_ite (P := 1 ≤ x1 ∧ x1 ≤ 100)]
  by_cases hx : 1 ≤ x1 ∧ x1 ≤ 100
  · rw [if_pos hx, if_pos hx, Mod_in, bI_some, Mod_in, bI_some, Mod_isCase hc.2.2.2.2.1 hn, bI_some]
    simp only [b01_ite]
    by_cases c1 : 0 ≤ x2 ∧ x2 ≤ 3
    · rw [if_pos c1, if_pos c1]
      exact tried_core h hx e4 _ _ _ _ (Or.inl ⟨b01_f (by omega), b01_f (by omega), c1.1, c1.2⟩)
    · rw [if_neg c1, if_neg c1]
      by_cases c2 : 10 ≤ x2 ∧ x2 < 19
      · rw [if_pos c2, if_pos (show 0 ≤ isb x2 10 ∧ isb x2 10 ≤ 8 by omega)]
        exact tried_core h hx e4 _ _ _ _ (Or.inr (Or.inl ⟨b01_f (by omega), b01_t c2, c2.1, by omega⟩))
      · rw [if_neg c2, if_neg (show ¬ (0 ≤ isb x2 10 ∧ isb x2 10 ≤ 8) by omega)]
        by_cases c3 : 30 ≤ x2 ∧ x2 < 30 + (n : Int)
        · rw [if_pos c3, if_pos (show 0 ≤ isb x2 30 ∧ isb x2 30 < (n : Int) by omega)]
          exact tried_core h hx e4 _ _ _ _ (Or.inr (Or.inr ⟨b01_t c3, c3.1, c3.2⟩))
        · rw [if_neg c3, if_neg (show ¬ (0 ≤ isb x2 30 ∧ isb x2 30 < (n : Int)) by omega)]
          exact agree_same h _ rfl rfl
  · rw [if_neg hx, if_neg hx]
    exact agree_same h _ rfl rfl
theorem goOn_1 {k kc n kr nr : Nat} {D C : Int} {M N M' : pz_M} (h : dsE k kc n kr nr D C M N) (h1 : m_Terrace_dayGoesBy k kr kc M = some (none, M')) : m_Desk_goOn k 1 M = some (none, M') := by
  rw [m_Desk_goOn_eq _ _ _ (cl_9 h.1), m_Desk_goOn_2_eq _ _ _ _ (cl_9 h.1), if_pos (by decide), if_pos (by decide), show (M 0 2).toNat = kr by rw [h.2.2.2.2.2.1.2.1]; rfl, show (M 0 0).toNat = kc by rw [h.2.1.2.1]; rfl, h1, bV_some, ia_eq (by decide) (by decide), m_Desk_goOn_2_eq _ _ _ _ (cl_9 h.1), if_neg (by decide)]
theorem goOn_0 {k kc n kr nr : Nat} {D C : Int} {M N : pz_M} (h : dsE k kc n kr nr D C M N) (hd : ¬ M k 5 < 9999) : m_Desk_goOn k 1 M = some (none, M) := goOn_1 h (by rw [m_Terrace_dayGoesBy_eq _ _ _ _ (cl_9 h.1) (lw_cls h.2.2.2.2.2.1.1).1 (cl_1 h.2.1.1), if_neg hd])
/-- one more day of the desk's try, whatever the day -/
theorem try_more {M N M1 N1 : pz_M} {kc n kr nr : Nat} {D : Int} (h : tryS M N kc n kr nr D M1 N1) : ∃ M2, m_Desk_goOn 54 1 M1 = some (none, M2) ∧ kX M M2 := by
  by_cases hd : M1 54 5 < 9999
  · obtain ⟨M2, N2, a1, a2, a3, a4, a5⟩ := day_ok h.1 hd
    exact ⟨M2, goOn_1 h.1 a1, (tryS_go h a3 a4 a5).2.1⟩
  · exact ⟨M1, goOn_0 h.1 hd, h.2.1⟩
theorem byWhen_end {M N M1 N1 : pz_M} {kc n kr nr c : Nat} {D : Int} (h : tryS M N kc n kr nr D M1 N1) (hc : c < 24) (hd : ¬ M1 54 5 < 9999) (hp : M1 55 c ≠ 10) (x : Nat) (hx : x ≤ 100) : ∀ (j i : Nat), i + j = x + 1 → m_Desk_byWhen_30 c x i M1 = some (some (pzI (-2)), M1) := by
  intro j
  induction j with
  | zero => intro i hi; rw [m_Desk_byWhen_30_eq, if_pos (show (x : Int) < (i : Int) by omega)]
  | succ j ih =>
    intro i hi
    rw [m_Desk_byWhen_30_eq, if_neg (show ¬ (x : Int) < (i : Int) by omega), grd_pos (by omega), show ((c : Nat) : Int).toNat = c from rfl, if_neg hp, goOn_0 h.1 hd, bV_some, ia_eq (by omega) (by omega)]
    exact ih (i + 1) (by omega)
theorem byWhen_L {M N : pz_M} {kc n kr nr c x : Nat} {D : Int} (hrl : rl M N) (hc : c < n) (hx : x ≤ 100) : ∀ (j i : Nat) (M1 N1 : pz_M) (w : pz_V), i + j = x → tryS M N kc n kr nr D M1 N1 → agree (m_Desk_byWhen_30 c x i M1) (m_Mod_byWhen_33 c x i w N1) := by
  have last : ∀ (i : Nat) (M1 N1 : pz_M) (w : pz_V), tryS M N kc n kr nr D M1 N1 → ∃ N', kY N N' ∧ m_Mod_byWhen_70 c (pzI x) i w N1 = some (some (pzI (if M1 55 c = 10 then (i : Int) else -2)), N') := by
    intro i M1 N1 w T
    obtain ⟨N', k1, k2⟩ := tryS_back T
    have hn : n ≤ 24 := T.1.2.1.2.2.2.2.2.1
    have e := pl_10 (T.1.2.2.2.1.1 c hc).1
    refine ⟨N', k2, ?_⟩
    rw [m_Mod_byWhen_70_eq, Mod_isLeft T.1.2.1.2.2.2.2.1 hn, bI_some, k1, bV_some, b01_ite, show ((c : Nat) : Int).toNat = c from rfl]
    by_cases q : M1 55 c = 10
    · rw [if_pos q, if_neg (fun z => z.2.2 (e.mp q))]
    · rw [if_neg q, if_pos ⟨by omega, by omega, fun z => q (e.mpr z)⟩]
  intro j
  induction j with
  | zero =>
    intro i M1 N1 w hi T
    have hn : n ≤ 24 := T.1.2.1.2.2.2.2.2.1
    have e := pl_10 (T.1.2.2.2.1.1 c hc).1
    obtain ⟨N', k2, k3⟩ := last i M1 N1 w T
    rw [m_Desk_byWhen_30_eq, if_neg (show ¬ (x : Int) < (i : Int) by omega), grd_pos (by omega), m_Mod_byWhen_33_eq, Mod_isLeft T.1.2.1.2.2.2.2.1 hn, bI_some, b01_ite, if_neg (show ¬ (i : Int) < (x : Int) by omega), show ((c : Nat) : Int).toNat = c from rfl, k3]
    by_cases q : M1 55 c = 10
    · rw [if_pos q, if_neg (fun z => z.2.2 (e.mp q))]
      exact ⟨i, M1, N', rfl, by rw [if_pos q], rl_keep hrl T.2.1 k2⟩
    · obtain ⟨M2, m1, m2⟩ := try_more T
      rw [if_neg q, if_pos ⟨by omega, by omega, fun z => q (e.mpr z)⟩, m1, bV_some, ia_eq (by omega) (by omega), m_Desk_byWhen_30_eq, if_pos (show (x : Int) < (i : Int) + 1 by omega)]
      exact ⟨-2, M2, N', rfl, by rw [if_neg q], rl_keep hrl m2 k2⟩
  | succ j ih =>
    intro i M1 N1 w hi T
    have hn : n ≤ 24 := T.1.2.1.2.2.2.2.2.1
    have e := pl_10 (T.1.2.2.2.1.1 c hc).1
    obtain ⟨N', k2, k3⟩ := last i M1 N1 w T
    have hday : M1 54 5 = N1 101 81 := T.1.2.2.2.1.2.2.1
    by_cases q : M1 55 c = 10
    · rw [m_Desk_byWhen_30_eq, if_neg (show ¬ (x : Int) < (i : Int) by omega), grd_pos (by omega), m_Mod_byWhen_33_eq, Mod_isLeft T.1.2.1.2.2.2.2.1 hn, bI_some, b01_ite, show ((c : Nat) : Int).toNat = c from rfl, k3, if_pos q, if_neg (fun z => z.2.2 (e.mp q))]
      exact ⟨i, M1, N', rfl, by rw [if_pos q], rl_keep hrl T.2.1 k2⟩
    · by_cases hd : M1 54 5 < 9999
      · obtain ⟨M2, N2, a1, a2, a3, a4, a5⟩ := day_ok T.1 hd
        rw [m_Desk_byWhen_30_eq, if_neg (show ¬ (x : Int) < (i : Int) by omega), grd_pos (by omega), m_Mod_byWhen_33_eq, Mod_isLeft T.1.2.1.2.2.2.2.1 hn, bI_some, b01_ite, show ((c : Nat) : Int).toNat = c from rfl, if_neg q, if_pos ⟨by omega, by omega, fun z => q (e.mpr z)⟩, goOn_1 T.1 a1, bV_some, if_pos (show (i : Int) < (x : Int) by omega), if_pos (by rw [← hday]; exact hd), a2, bV_some, ia_eq (x := (i : Int)) (by omega) (by omega)]
        exact ih (i + 1) M2 N2 w (by omega) (tryS_go T a3 a4 a5)
      · rw [byWhen_end T (by omega) hd q x hx (j + 2) i (by omega), m_Mod_byWhen_33_eq, Mod_isLeft T.1.2.1.2.2.2.2.1 hn, bI_some, b01_ite, show ((c : Nat) : Int).toNat = c from rfl, if_pos ⟨by omega, by omega, fun z => q (e.mpr z)⟩, if_pos (show (i : Int) < (x : Int) by omega), if_neg (by rw [← hday]; exact hd), k3]
        exact ⟨-2, M1, N', rfl, by rw [if_neg q], rl_keep hrl T.2.1 k2⟩
theorem ag_byWhen {M N : pz_M} (h : rl M N) (x1 x2 : Int) : agree (m_Desk_byWhen x1 x2 M) (m_Mod_byWhen x1 x2 N) := by
  obtain ⟨kc, n, kr, nr, M1, N1, hn, e4, e6, d0, d24, a1, b1, T, _⟩ := tryS_in h
  rw [m_Desk_byWhen_eq, Desk_isCase e4, bI_some, b01_ite, m_Mod_byWhen_eq, Mod_isCase e6 hn, bI_some, b01_ite]
  by_cases hc : 0 ≤ x1 ∧ x1 < (n : Int)
  · rw [if_pos hc, if_pos hc, Desk_areDays, bI_some, b01_ite, Mod_in, bI_some, b01_ite]
    by_cases hx : 1 ≤ x2 ∧ x2 ≤ 100
    · rw [if_pos hx, if_pos hx, a1, bV_some, b1, bV_some]
      obtain ⟨c, hc'⟩ : ∃ c : Nat, x1 = (c : Int) := ⟨x1.toNat, by omega⟩
      obtain ⟨x, hx'⟩ : ∃ x : Nat, x2 = (x : Int) := ⟨x2.toNat, by omega⟩
      subst hc'
      subst hx'
      exact byWhen_L h (by omega) (by omega) x 0 M1 N1 pzN (by omega) T
    · rw [if_neg hx, if_neg hx]
      exact agree_same h _ rfl rfl
  · rw [if_neg hc, if_neg hc]
    exact agree_same h _ rfl rfl
theorem cntI_all {f : Nat → Int} {q : Int} : ∀ n : Nat, cntI f q n = n ↔ ∀ c, c < n → f c = q := by
  intro n
  induction n with
  | zero => exact ⟨fun _ c hc => by omega, fun _ => rfl⟩
  | succ n ih =>
    have hle := cntI_le f q n
    show cntI f q n + (if f n = q then 1 else 0) = ((n + 1 : Nat) : Int) ↔ _
    by_cases e : f n = q
    · rw [if_pos e]
      constructor
      · intro z c hc
        by_cases ec : c = n
        · rw [ec]; exact e
        · exact ih.mp (by omega) c (by omega)
      · intro z
        have := ih.mpr (fun c hc => z c (by omega))
        omega
    · rw [if_neg e]
      constructor
      · intro z; omega
      · intro z; exact absurd (z n (by omega)) e
theorem anyLeft_L {N : pz_M} {n : Nat} (h : N 100 6 = n) (hn : n ≤ 24) : ∀ (j x : Nat), x + j = n → (∀ c, c < x → N 101 c = 2) → ∃ r : Int, m_Mod_anyLeft_2 x N = some (some (pzI r), N) ∧ (r = 0 ↔ ∀ c, c < n → N 101 c = 2) := by
  intro j
  induction j with
  | zero =>
    intro x hx ha
    rw [m_Mod_anyLeft_2_eq, h, if_neg (show ¬ (x : Int) < (n : Int) by omega)]
    exact ⟨0, rfl, fun _ c hc => ha c (by omega), fun _ => rfl⟩
  | succ j ih =>
    intro x hx ha
    rw [m_Mod_anyLeft_2_eq, h, if_pos (show (x : Int) < (n : Int) by omega), Mod_isLeft h hn, bI_some, b01_ite, ia_eq (by omega) (by omega), show ((x : Nat) : Int).toNat = x from rfl]
    by_cases e : N 101 x = 2
    · rw [if_neg (fun z => z.2.2 e)]
      exact ih (x + 1) (by omega) (fun c hc => by
        by_cases ec : c = x
        · rw [ec]; exact e
        · exact ha c (by omega))
    · rw [if_pos ⟨by omega, by omega, e⟩]
      exact ⟨1, rfl, fun z => absurd z (by decide), fun z => absurd (z x (by omega)) e⟩
theorem try_quiet {M N M1 N1 : pz_M} {kc n kr nr : Nat} {D : Int} (T : tryS M N kc n kr nr D M1 N1) : ∃ r : Int, m_Mod_anyLeft N1 = some (some (pzI r), N1) ∧ (r = 0 ↔ M1 58 10 = M1 54 4) := by
  have hn : n ≤ 24 := T.1.2.1.2.2.2.2.2.1
  obtain ⟨r, a1, a2⟩ := anyLeft_L T.1.2.1.2.2.2.2.1 hn n 0 (by omega) (fun c hc => by omega)
  have a1' : m_Mod_anyLeft_2 0 N1 = some (some (pzI r), N1) := a1
  refine ⟨r, by rw [m_Mod_anyLeft_eq]; exact a1', a2.trans ?_⟩
  have l1 : M1 58 10 = cntI (M1 55) ((10 : Nat) : Int) n := T.1.2.2.2.2.1 10 (by omega)
  rw [l1, T.1.2.2.1, cntI_all]
  exact ⟨fun z c hc => (pl_10 (T.1.2.2.2.1.1 c hc).1).mpr (z c hc), fun z c hc => (pl_10 (T.1.2.2.2.1.1 c hc).1).mp (z c hc)⟩
theorem quiet_end {M N M1 N1 : pz_M} {kc n kr nr : Nat} {D : Int} (h : tryS M N kc n kr nr D M1 N1) (hd : ¬ M1 54 5 < 9999) (hp : ¬ M1 58 10 = M1 54 4) (x : Nat) (hx : x ≤ 100) : ∀ (j i : Nat), i + j = x + 1 → m_Desk_allQuiet_22 x i M1 = some (some (pzI (-2)), M1) := by
  intro j
  induction j with
  | zero => intro i hi; rw [m_Desk_allQuiet_22_eq, if_pos (show (x : Int) < (i : Int) by omega)]
  | succ j ih =>
    intro i hi
    rw [m_Desk_allQuiet_22_eq, if_neg (show ¬ (x : Int) < (i : Int) by omega), if_neg hp, goOn_0 h.1 hd, bV_some, ia_eq (by omega) (by omega)]
    exact ih (i + 1) (by omega)
theorem quiet_L {M N : pz_M} {kc n kr nr x : Nat} {D : Int} (hrl : rl M N) (hx : x ≤ 100) : ∀ (j i : Nat) (M1 N1 : pz_M) (w : pz_V), i + j = x → tryS M N kc n kr nr D M1 N1 → agree (m_Desk_allQuiet_22 x i M1) (m_Mod_allQuiet_25 x i w N1) := by
  have last : ∀ (i : Nat) (M1 N1 : pz_M) (w : pz_V), tryS M N kc n kr nr D M1 N1 → ∃ N', kY N N' ∧ m_Mod_allQuiet_61 (pzI x) i w N1 = some (some (pzI (if M1 58 10 = M1 54 4 then (i : Int) else -2)), N') := by
    intro i M1 N1 w T
    obtain ⟨N', k1, k2⟩ := tryS_back T
    obtain ⟨r, r1, r2⟩ := try_quiet T
    refine ⟨N', k2, ?_⟩
    rw [m_Mod_allQuiet_61_eq, r1, bI_some, k1, bV_some]
    by_cases q : M1 58 10 = M1 54 4
    · rw [if_pos q, if_pos (r2.mpr q)]
    · rw [if_neg q, if_neg (fun z => q (r2.mp z))]
  intro j
  induction j with
  | zero =>
    intro i M1 N1 w hi T
    obtain ⟨r, r1, r2⟩ := try_quiet T
    obtain ⟨N', k2, k3⟩ := last i M1 N1 w T
    rw [m_Desk_allQuiet_22_eq, if_neg (show ¬ (x : Int) < (i : Int) by omega), m_Mod_allQuiet_25_eq, r1, bI_some, if_neg (show ¬ (i : Int) < (x : Int) by omega), k3]
    by_cases q : M1 58 10 = M1 54 4
    · rw [if_pos q, if_pos (r2.mpr q)]
      exact ⟨i, M1, N', rfl, by rw [if_pos q], rl_keep hrl T.2.1 k2⟩
    · obtain ⟨M2, m1, m2⟩ := try_more T
      rw [if_neg q, if_neg (fun z => q (r2.mp z)), m1, bV_some, ia_eq (by omega) (by omega), m_Desk_allQuiet_22_eq, if_pos (show (x : Int) < (i : Int) + 1 by omega)]
      exact ⟨-2, M2, N', rfl, by rw [if_neg q], rl_keep hrl m2 k2⟩
  | succ j ih =>
    intro i M1 N1 w hi T
    obtain ⟨r, r1, r2⟩ := try_quiet T
    obtain ⟨N', k2, k3⟩ := last i M1 N1 w T
    have hday : M1 54 5 = N1 101 81 := T.1.2.2.2.1.2.2.1
    by_cases q : M1 58 10 = M1 54 4
    · rw [m_Desk_allQuiet_22_eq, if_neg (show ¬ (x : Int) < (i : Int) by omega), m_Mod_allQuiet_25_eq, r1, bI_some, k3, if_pos q, if_pos (r2.mpr q)]
      exact ⟨i, M1, N', rfl, by rw [if_pos q], rl_keep hrl T.2.1 k2⟩
    · by_cases hd : M1 54 5 < 9999
      · obtain ⟨M2, N2, a1, a2, a3, a4, a5⟩ := day_ok T.1 hd
        rw [m_Desk_allQuiet_22_eq, if_neg (show ¬ (x : Int) < (i : Int) by omega), m_Mod_allQuiet_25_eq, r1, bI_some, if_neg q, if_neg (fun z => q (r2.mp z)), goOn_1 T.1 a1, bV_some, if_pos (show (i : Int) < (x : Int) by omega), if_pos (by rw [← hday]; exact hd), a2, bV_some, ia_eq (x := (i : Int)) (by omega) (by omega)]
        exact ih (i + 1) M2 N2 w (by omega) (tryS_go T a3 a4 a5)
      · rw [quiet_end T hd q x hx (j + 2) i (by omega), m_Mod_allQuiet_25_eq, r1, bI_some, if_neg (fun z => q (r2.mp z)), if_pos (show (i : Int) < (x : Int) by omega), if_neg (by rw [← hday]; exact hd), k3]
        exact ⟨-2, M1, N', rfl, by rw [if_neg q], rl_keep hrl T.2.1 k2⟩
theorem ag_allQuiet {M N : pz_M} (h : rl M N) (x : Int) : agree (m_Desk_allQuiet x M) (m_Mod_allQuiet x N) := by
  obtain ⟨kc, n, kr, nr, M1, N1, hn, e4, e6, d0, d24, a1, b1, T, _⟩ := tryS_in h
  rw [m_Desk_allQuiet_eq, Desk_areDays, bI_some, b01_ite, m_Mod_allQuiet_eq, Mod_in, bI_some, b01_ite]
  by_cases hx : 1 ≤ x ∧ x ≤ 100
  · rw [if_pos hx, if_pos hx, a1, bV_some, b1, bV_some]
    obtain ⟨x', hx'⟩ : ∃ x' : Nat, x = (x' : Int) := ⟨x.toNat, by omega⟩
    subst hx'
    exact quiet_L h (by omega) x' 0 M1 N1 pzN (by omega) T
  · rw [if_neg hx, if_neg hx]
    exact agree_same h _ rfl rfl
