/-! what a law says: both alike -/
theorem eX.rf (k : Nat) (M : pz_M) : eX k M M := fun _ _ _ _ => rfl
theorem eY.rf (N : pz_M) : eY N N := fun _ _ _ => rfl
theorem eX.tr {k : Nat} {M M1 M2 : pz_M} (h : eX k M M1) (h2 : eX k M1 M2) : eX k M M2 := fun c i a b => (h2 c i a b).trans (h c i a b)
theorem eY.tr {N N1 N2 : pz_M} (h : eY N N1) (h2 : eY N1 N2) : eY N N2 := fun c i a => (h2 c i a).trans (h c i a)
theorem eX.k1 {k : Nat} {M M' : pz_M} (h : eX k M M') (hk : k = 13 ∨ k = 21) : kX1 M M' := fun c i q => by
  unfold cX1 at q
  simp only [Bool.or_eq_true, Bool.and_eq_true, decide_eq_true_eq] at q
  exact h c i (by omega) (by omega)
theorem eY.k1 {N N' : pz_M} (h : eY N N') : kY1 N N' := fun c i q => by
  unfold cY1 at q
  simp only [Bool.or_eq_true, Bool.and_eq_true, decide_eq_true_eq] at q
  exact h c i (by omega)
theorem run_ok {M N : pz_M} {k cs ms len : Nat} {fin : Bool} (hk : k = 13 ∨ k = 21) (h : rl_seg M N k cs ms len fin) (hf : ∀ i, i < 10 → M (k + 6) i = N 120 i) : ∃ r M' N', m_Law_run k (cs : Int) M = some (some (pzI r), M') ∧ m_Mod_reckonsTo (ms : Int) ((ms + len : Nat) : Int) N = some (some (pzI r), N') ∧ eX k M M' ∧ eY N N' ∧ (fin = true → r = 0 ∨ r = 1) := by
  obtain ⟨ty, op, arg, h0, hl, hcs, h6, hz, hms, hst⟩ := h
  have hlen : 0 < len := by
    rcases Nat.eq_zero_or_pos len with e | e
    · subst e; rw [h0] at hl; cases hl
    · exact e
  rw [m_Law_run_eq _ _ _ (lw_cls hk).1, bM_eq, m_Mod_reckonsTo_eq, idv_nn (by omega) (by omega) (by omega) (by omega), show (ms : Int) / 260 = 0 by omega, show imu 260 0 = 0 from imu_eq (by decide) (by decide)]
  exact seg_L hk hl hcs h6 hz hms hst hf len 0 0 0 (pz_wr M k 9 0) N (pzI cs) pzN pzN pzN (pzI ms) pzN pzN (by omega) (by omega) (by rw [h0]; rfl) (by omega) (eX.rf k M).wr9 wr_same (eY.rf N) (fun i hi => by omega) (by rw [h0]; trivial)
theorem kdY_inj {a b : Nat} (ha : a < 4) (hb : b < 4) : kdY a = kdY b ↔ a = b := by
  have : ∀ a b : Fin 4, kdY a.val = kdY b.val ↔ a.val = b.val := by decide
  exact this ⟨a, ha⟩ ⟨b, hb⟩
theorem worth_L {kr n kd : Nat} {hi no : Int} (hhi : 0 ≤ hi) (hkd : kd < 3) : ∀ (j x : Nat) (M N : pz_M) (w : pz_V), x + j = n → rl_law M N kr n → (∀ i, i < 10 → M (kr + 6) i = N 120 i) → ∃ r M' N', m_Law_worth_3 kr kd hi no x M = some (some (pzI r), M') ∧ m_Mod_byLaw_3 (kdY kd) hi no x w N = some (some (pzI r), N') ∧ eX kr M M' ∧ eY N N' := by
  intro j
  induction j with
  | zero =>
    intro x M N w hx hr hf
    have hcl := (lw_cls hr.1).1
    rw [m_Law_worth_3_eq _ _ _ _ _ _ hcl, hr.2.2.2.1, if_neg (show ¬ (x : Int) < (n : Int) by omega), m_Mod_byLaw_3_eq, hr.2.2.2.2.1, if_neg (show ¬ (x : Int) < (n : Int) by omega)]
    exact ⟨no, M, N, rfl, rfl, eX.rf _ _, eY.rf _⟩
  | succ j ih =>
    intro x M N w hx hr hf
    have hcl := (lw_cls hr.1).1
    have hn := hr.2.2.2.2.2.1
    have hk := hr.1
    obtain ⟨kd', cv, ct, mf, mh, mt, a1, a2, a3, a4, a5, a6, a7, a8, b1, b2, b3, b4, b5⟩ := hr.2.2.2.2.2.2.2.2 x (by omega)
    rw [m_Law_worth_3_eq _ _ _ _ _ _ hcl, hr.2.2.2.1, if_pos (show (x : Int) < (n : Int) by omega), grd_pos (by omega), m_Mod_byLaw_3_eq, hr.2.2.2.2.1, if_pos (show (x : Int) < (n : Int) by omega), grd_pos (by omega), show ((x : Nat) : Int).toNat = x from rfl, a2, a3, ia_eq (x := (x : Int)) (by omega) (by omega)]
    by_cases e : kd' = kd
    · subst e
      obtain ⟨r, M1, N1, g1, g2, g3, g4, g5⟩ := run_ok hk b5 hf
      rw [show mh + (mt - mh) = mt by omega] at g2
      rw [if_pos rfl, if_pos rfl, grd_pos (by omega), grd_pos (by omega), grd_pos (by omega), a5, a7, a8, g1, g2, bI_some, bI_some]
      have hr1 := rl_law_keep hr (g3.k1 hk) g4.k1
      have hf1 : ∀ i, i < 10 → M1 (kr + 6) i = N1 120 i := fun i hi => by rw [g3 _ _ (by omega) (by omega), g4 _ _ (by omega)]; exact hf i hi
      rcases g5 rfl with e0 | e0
      · rw [e0, if_pos rfl, if_neg (show ¬ (0 : Int) = 1 by decide)]
        obtain ⟨r', M', N', k1, k2, k3, k4⟩ := ih (x + 1) M1 N1 w (by omega) hr1 hf1
        exact ⟨r', M', N', k1, k2, g3.tr k3, g4.tr k4⟩
      · obtain ⟨r2, M2, N2, k1, k2, k3, k4, _⟩ := run_ok hk (rl_seg_keep (b4 hkd) (fun i => g3 _ i (by omega) (by omega)) (fun i => g3 _ i (by omega) (by omega)) (g3 _ _ (by omega) (by omega)) (fun i => g4 _ i (by omega))) hf1
        rw [show mf + (mh - mf) = mh by omega] at k2
        rw [e0, if_neg (show ¬ (1 : Int) = 0 by decide), if_pos rfl, grd_pos (by omega), grd_pos (by omega), grd_pos (by omega), g3 (kr + 2) x (by omega) (by omega), a4, k1, g4 116 x (by decide), g4 117 x (by decide), a6, a7, k2, bI_some, bI_some, Math_min, bI_some, Math_max, bI_some]
        refine ⟨max 0 (min hi r2), M2, N2, rfl, ?_, g3.tr k3, g4.tr k4⟩
        by_cases q1 : r2 < 0
        · rw [if_pos q1, show max 0 (min hi r2) = 0 by omega]
        · rw [if_neg q1]
          by_cases q2 : hi < r2
          · rw [if_pos q2, show max 0 (min hi r2) = hi by omega]
          · rw [if_neg q2, show max 0 (min hi r2) = r2 by omega]
    · rw [if_neg (show ¬ (kd' : Int) = (kd : Int) by omega), if_neg (show ¬ kdY kd' = kdY kd from fun z => e ((kdY_inj a1 (by omega)).mp z)), grd_pos (by omega)]
      exact ih (x + 1) M N w (by omega) hr hf
theorem worth_ok {kr n kd : Nat} {hi no : Int} {M N : pz_M} (hhi : 0 ≤ hi) (hkd : kd < 3) (h : rl_law M N kr n) (hf : ∀ i, i < 10 → M (kr + 6) i = N 120 i) : ∃ r M' N', m_Law_worth kr kd hi no M = some (some (pzI r), M') ∧ m_Mod_byLaw (kdY kd) hi no N = some (some (pzI r), N') ∧ eX kr M M' ∧ eY N N' := by
  rw [m_Law_worth_eq _ _ _ _ _ (lw_cls h.1).1, m_Mod_byLaw_eq]
  exact worth_L hhi hkd n 0 M N pzN (by omega) h hf
theorem moults_L {kr n : Nat} : ∀ (j x : Nat) (M N : pz_M), x + j = n → rl_law M N kr n → (∀ i, i < 10 → M (kr + 6) i = N 120 i) → ∃ r M' N', m_Law_moults_2 kr x M = some (some (pzI r), M') ∧ m_Mod_holdsAny_2 120 x N = some (some (pzI r), N') ∧ eX kr M M' ∧ eY N N' := by
  intro j
  induction j with
  | zero =>
    intro x M N hx hr hf
    have hcl := (lw_cls hr.1).1
    rw [m_Law_moults_2_eq _ _ _ hcl, hr.2.2.2.1, if_neg (show ¬ (x : Int) < (n : Int) by omega), m_Mod_holdsAny_2_eq, hr.2.2.2.2.1, if_neg (show ¬ (x : Int) < (n : Int) by omega)]
    exact ⟨0, M, N, rfl, rfl, eX.rf _ _, eY.rf _⟩
  | succ j ih =>
    intro x M N hx hr hf
    have hcl := (lw_cls hr.1).1
    have hn := hr.2.2.2.2.2.1
    have hk := hr.1
    obtain ⟨kd', cv, ct, mf, mh, mt, a1, a2, a3, a4, a5, a6, a7, a8, b1, b2, b3, b4, b5⟩ := hr.2.2.2.2.2.2.2.2 x (by omega)
    rw [m_Law_moults_2_eq _ _ _ hcl, hr.2.2.2.1, if_pos (show (x : Int) < (n : Int) by omega), grd_pos (by omega), m_Mod_holdsAny_2_eq, hr.2.2.2.2.1, if_pos (show (x : Int) < (n : Int) by omega), grd_pos (by omega), show ((x : Nat) : Int).toNat = x from rfl, a2, a3, ia_eq (x := (x : Int)) (by omega) (by omega)]
    by_cases e : kd' = 3
    · subst e
      obtain ⟨r, M1, N1, g1, g2, g3, g4, g5⟩ := run_ok hk b5 hf
      rw [show mh + (mt - mh) = mt by omega] at g2
      rw [if_pos (show ((3 : Nat) : Int) = 3 from rfl), if_pos (show kdY 3 = 120 from rfl), grd_pos (by omega), grd_pos (by omega), grd_pos (by omega), a5, a7, a8, g1, g2, bI_some, bI_some]
      have hr1 := rl_law_keep hr (g3.k1 hk) g4.k1
      have hf1 : ∀ i, i < 10 → M1 (kr + 6) i = N1 120 i := fun i hi => by rw [g3 _ _ (by omega) (by omega), g4 _ _ (by omega)]; exact hf i hi
      rcases g5 rfl with e0 | e0
      · rw [e0, if_pos rfl, if_neg (show ¬ (0 : Int) = 1 by decide)]
        obtain ⟨r', M', N', k1, k2, k3, k4⟩ := ih (x + 1) M1 N1 (by omega) hr1 hf1
        exact ⟨r', M', N', k1, k2, g3.tr k3, g4.tr k4⟩
      · rw [e0, if_neg (show ¬ (1 : Int) = 0 by decide), if_pos rfl]
        exact ⟨1, M1, N1, rfl, rfl, g3, g4⟩
    · rw [if_neg (show ¬ (kd' : Int) = 3 by omega), if_neg (show ¬ kdY kd' = 120 from fun z => e ((kdY_inj (b := 3) a1 (by omega)).mp z)), grd_pos (by omega)]
      exact ih (x + 1) M N (by omega) hr hf
theorem moults_ok {kr n : Nat} {M N : pz_M} (h : rl_law M N kr n) (hf : ∀ i, i < 10 → M (kr + 6) i = N 120 i) : ∃ r M' N', m_Law_moults kr M = some (some (pzI r), M') ∧ m_Mod_holdsAny 120 N = some (some (pzI r), N') ∧ eX kr M M' ∧ eY N N' := by
  rw [m_Law_moults_eq _ _ (lw_cls h.1).1, m_Mod_holdsAny_eq]
  exact moults_L n 0 M N (by omega) h hf
