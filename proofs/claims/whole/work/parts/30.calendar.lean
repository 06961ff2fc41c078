/-! ===== the calendar, a cry ===== -/
abbrev leapP (y : Int) : Prop := y % 4 = 0 ∧ (y % 100 ≠ 0 ∨ y % 400 = 0)
theorem Rck_isLeap {y : Int} (h0 : 0 ≤ y) (h1 : y ≤ 100000) (M : pz_M) : m_Reckoner_isLeap y M = some (some (pzI (b01 (leapP y))), M) := by
  rw [m_Reckoner_isLeap_eq, irm_nn h0 (by omega) (by omega) (by omega), irm_nn h0 (by omega) (by omega) (by omega), irm_nn h0 (by omega) (by omega) (by omega)]
  unfold b01 leapP
  (repeat' split) <;> first | rfl | omega
theorem Mod_isLeap {y : Int} (h0 : 0 ≤ y) (h1 : y ≤ 100000) (M : pz_M) : m_Mod_isLeap y M = some (some (pzI (b01 (leapP y))), M) := by
  rw [m_Mod_isLeap_eq, irm_nn h0 (by omega) (by omega) (by omega), irm_nn h0 (by omega) (by omega) (by omega), irm_nn h0 (by omega) (by omega) (by omega)]
  unfold b01 leapP
  (repeat' split) <;> first | rfl | omega
def dim (m y : Int) : Int := if m = 2 then (if leapP y then 29 else 28) else if m = 4 ∨ m = 6 ∨ m = 9 ∨ m = 11 then 30 else 31
theorem dim_rg (m y : Int) : 28 ≤ dim m y ∧ dim m y ≤ 31 := by unfold dim; (repeat' split) <;> omega
theorem Rck_dim {m y : Int} (h0 : 0 ≤ y) (h1 : y ≤ 100000) (M : pz_M) : m_Reckoner_daysOfMonth m y M = some (some (pzI (dim m y)), M) := by
  rw [m_Reckoner_daysOfMonth_eq, Rck_isLeap h0 h1, bI_some, b01_ite]
  unfold dim
  (repeat' split) <;> first | rfl | omega
theorem Mod_dim {m y : Int} (h0 : 0 ≤ y) (h1 : y ≤ 100000) (M : pz_M) : m_Mod_daysIn m y M = some (some (pzI (dim m y)), M) := by
  rw [m_Mod_daysIn_eq, Mod_isLeap h0 h1, bI_some, b01_ite]
  unfold dim
  (repeat' split) <;> first | rfl | omega
def wdy (y d : Int) : Int := (5 + (y - 1600) + ((y - 1600 + 3) / 4 - (y - 1600 + 99) / 100 + (y - 1600 + 399) / 400) + d - 1) % 7
theorem Rck_wdy {y d : Int} (h0 : 1600 ≤ y) (h1 : y ≤ 2999) (d0 : 1 ≤ d) (d1 : d ≤ 1000) (M : pz_M) : m_Reckoner_weekdayOf y d M = some (some (pzI (wdy y d)), M) := by
  have e1 : isb y 1600 = y - 1600 := isb_eq (by omega) (by omega)
  have e2 : idv (ia (y - 1600) 3) 4 = (y - 1600 + 3) / 4 := by rw [ia_eq (by omega) (by omega), idv_nn (by omega) (by omega) (by omega) (by omega)]
  have e3 : idv (ia (y - 1600) 99) 100 = (y - 1600 + 99) / 100 := by rw [ia_eq (by omega) (by omega), idv_nn (by omega) (by omega) (by omega) (by omega)]
  have e4 : idv (ia (y - 1600) 399) 400 = (y - 1600 + 399) / 400 := by rw [ia_eq (by omega) (by omega), idv_nn (by omega) (by omega) (by omega) (by omega)]
  rw [m_Reckoner_weekdayOf_eq, e1, e2, e3, e4, imu_eq (by omega) (by omega), ia_eq (x := 5) (by omega) (by omega), isb_eq (x := (y - 1600 + 3) / 4) (by omega) (by omega), ia_eq (x := (y - 1600 + 3) / 4 - (y - 1600 + 99) / 100) (by omega) (by omega), ia_eq (x := 5 + 365 * (y - 1600)) (by omega) (by omega), ia_eq (y := d) (by omega) (by omega), isb_eq (by omega) (by omega), irm_nn (by omega) (by omega) (by omega) (by omega)]
  unfold wdy
  congr 4
  omega
theorem Mod_wdy {y d : Int} (h0 : 1600 ≤ y) (h1 : y ≤ 2999) (d0 : 1 ≤ d) (d1 : d ≤ 1000) (N : pz_M) : m_Mod_weekdayOf y d N = some (some (pzI (wdy y d)), N) := by
  have L : ∀ (j : Nat) (x a : Int), 1600 ≤ x → x + j = y → a = 5 + (x - 1600) + ((x - 1600 + 3) / 4 - (x - 1600 + 99) / 100 + (x - 1600 + 399) / 400) → m_Mod_weekdayOf_6 y d a x N = some (some (pzI (wdy y d)), N) := by
    intro j
    induction j with
    | zero =>
      intro x a hx hj ha
      have e : x = y := by omega
      subst e
      rw [m_Mod_weekdayOf_6_eq, if_neg (show ¬ x < x by omega), ia_eq (by omega) (by omega), isb_eq (by omega) (by omega), irm_nn (by omega) (by omega) (by omega) (by omega), ha]
      rfl
    | succ j ih =>
      intro x a hx hj ha
      rw [m_Mod_weekdayOf_6_eq, if_pos (show x < y by omega), Mod_isLeap (by omega) (by omega), bI_some, b01_ite, ia_eq (x := x) (by omega) (by omega), ia_eq (x := a) (by omega) (by omega), ia_eq (x := a) (by omega) (by omega)]
      by_cases hl : leapP x
      · rw [if_pos hl]
        exact ih (x + 1) _ (by omega) (by omega) (by unfold leapP at hl; omega)
      · rw [if_neg hl]
        exact ih (x + 1) _ (by omega) (by omega) (by unfold leapP at hl; omega)
  rw [m_Mod_weekdayOf_eq]
  exact L (y - 1600).toNat 1600 5 (by omega) (by omega) (by omega)
theorem wdy_rg (y d : Int) : 0 ≤ wdy y d ∧ wdy y d ≤ 6 := by unfold wdy; omega
theorem Rck_isYear (y : Int) (M : pz_M) : m_Reckoner_isYear y M = some (some (pzI (b01 (1600 ≤ y ∧ y ≤ 2999))), M) := by
  rw [m_Reckoner_isYear_eq]; unfold b01; (repeat' split) <;> first | rfl | omega
theorem ag_weekday {M N : pz_M} (h : rl M N) (d m y : Int) : agree (m_Desk_weekday d m y M) (m_Mod_weekday d m y N) := by
  rw [m_Desk_weekday_eq, m_Mod_weekday_eq, Rck_isYear, bI_some, b01_ite, Mod_in, bI_some, b01_ite, Mod_in, bI_some, b01_ite]
  by_cases hy : 1600 ≤ y ∧ y ≤ 2999
  · rw [if_pos hy, if_pos hy]
    by_cases hm : 1 ≤ m ∧ m ≤ 12
    · have hd := dim_rg m y
      rw [if_neg (show ¬ m < 1 by omega), if_neg (show ¬ 12 < m by omega), if_pos hm, Rck_dim (by omega) (by omega), bI_some, Mod_dim (by omega) (by omega), bI_some, Mod_in, bI_some, b01_ite]
      by_cases hdd : 1 ≤ d ∧ d ≤ dim m y
      · rw [if_neg (show ¬ d < 1 by omega), if_neg (show ¬ dim m y < d by omega), if_pos hdd]
        have L : ∀ (j : Nat) (x a : Int) (w1 w2 : pz_V), 1 ≤ x → x + j = m → 1 ≤ a → a ≤ 31 * x → ∃ r, m_Desk_weekday_43 w1 m y a x M = some (some (pzI r), M) ∧ m_Mod_weekday_47 w2 m y a x N = some (some (pzI r), N) := by
          intro j
          induction j with
          | zero =>
            intro x a w1 w2 h0 hj a0 a1
            exact ⟨wdy y a, by rw [m_Desk_weekday_43_eq, if_neg (show ¬ x < m by omega), Rck_wdy hy.1 hy.2 a0 (by omega), bI_some], by rw [m_Mod_weekday_47_eq, if_neg (show ¬ x < m by omega), Mod_wdy hy.1 hy.2 a0 (by omega), bI_some]⟩
          | succ j ih =>
            intro x a w1 w2 h0 hj a0 a1
            have hx := dim_rg x y
            rw [m_Desk_weekday_43_eq, if_pos (show x < m by omega), Rck_dim (by omega) (by omega), bI_some, m_Mod_weekday_47_eq, if_pos (show x < m by omega), Mod_dim (by omega) (by omega), bI_some, ia_eq (x := a) (by omega) (by omega), ia_eq (x := x) (by omega) (by omega)]
            exact ih (x + 1) _ _ _ (by omega) (by omega) (by omega) (by omega)
        obtain ⟨r, g1, g2⟩ := L (m - 1).toNat 1 d (pzI d) (pzI d) (by omega) (by omega) (by omega) (by omega)
        exact agree_same h r g1 g2
      · rw [if_neg hdd]
        by_cases h1 : d < 1
        · rw [if_pos h1]; exact agree_same h _ rfl rfl
        · rw [if_neg h1, if_pos (show dim m y < d by omega)]; exact agree_same h _ rfl rfl
    · rw [if_neg hm]
      by_cases h1 : m < 1
      · rw [if_pos h1]; exact agree_same h _ rfl rfl
      · rw [if_neg h1, if_pos (show 12 < m by omega)]; exact agree_same h _ rfl rfl
  · rw [if_neg hy, if_neg hy]
    exact agree_same h _ rfl rfl
theorem ag_work {M N : pz_M} (h : rl M N) (y f t : Int) : agree (m_Desk_work y f t M) (m_Mod_work y f t N) := by
  rw [m_Desk_work_eq, m_Mod_work_eq, Rck_isYear, bI_some, b01_ite, Mod_in, bI_some, b01_ite, Mod_in, bI_some, b01_ite]
  by_cases hy : 1600 ≤ y ∧ y ≤ 2999
  · rw [if_pos hy, if_pos hy, m_Reckoner_daysOfYear_eq, Rck_isLeap (by omega) (by omega), bI_some, b01_ite, Mod_isLeap (by omega) (by omega), bI_some, b01_ite, m_Mod_work_40_eq, m_Mod_work_40_eq, Mod_in, bI_some, b01_ite, Mod_in, bI_some, b01_ite]
    have L : ∀ (j : Nat) (x a : Int) (w1 w2 : pz_V), 1 ≤ x → x + j = t → t ≤ 366 → 0 ≤ a → a ≤ x → ∃ r, m_Desk_work_33 y w1 t a x M = some (some (pzI r), M) ∧ m_Mod_work_54 y w2 t a x N = some (some (pzI r), N) := by
      intro j
      induction j with
      | zero =>
        intro x a w1 w2 h0 hj ht a0 a1
        exact ⟨a, by rw [m_Desk_work_33_eq, if_neg (show ¬ x < t by omega)], by rw [m_Mod_work_54_eq, if_neg (show ¬ x < t by omega)]⟩
      | succ j ih =>
        intro x a w1 w2 h0 hj ht a0 a1
        rw [m_Desk_work_33_eq, if_pos (show x < t by omega), Rck_wdy hy.1 hy.2 (by omega) (by omega), bI_some, m_Mod_work_54_eq, if_pos (show x < t by omega), Mod_wdy hy.1 hy.2 (by omega) (by omega), bI_some, ia_eq (x := a) (by omega) (by omega), ia_eq (x := x) (by omega) (by omega)]
        by_cases h5 : wdy y x < 5
        · rw [if_pos h5, if_pos h5]
          exact ih (x + 1) _ _ _ (by omega) (by omega) ht (by omega) (by omega)
        · rw [if_neg h5, if_neg h5]
          exact ih (x + 1) _ _ _ (by omega) (by omega) ht (by omega) (by omega)
    have fin : ∀ D : Int, D ≤ 366 → agree (if f < 1 then some (some (pzI (-1)), M) else if t < f then some (some (pzI (-1)), M) else (bI (some (some (pzI D), M)) fun r4 M3 => if r4 < t then some (some (pzI (-1)), M3) else m_Desk_work_33 y (pzI f) t 0 f M3)) (if 1 ≤ f ∧ f ≤ t then (if 1 ≤ t ∧ t ≤ D then m_Mod_work_54 y (pzI f) t 0 f N else some (some (pzI (-1)), N)) else some (some (pzI (-1)), N)) := by
      intro D hD
      rw [bI_some]
      by_cases h1 : f < 1
      · rw [if_pos h1, if_neg (show ¬ (1 ≤ f ∧ f ≤ t) by omega)]; exact agree_same h _ rfl rfl
      rw [if_neg h1]
      by_cases h2 : t < f
      · rw [if_pos h2, if_neg (show ¬ (1 ≤ f ∧ f ≤ t) by omega)]; exact agree_same h _ rfl rfl
      rw [if_neg h2, if_pos (show (1 ≤ f ∧ f ≤ t) by omega)]
      by_cases h3 : D < t
      · rw [if_pos h3, if_neg (show ¬ (1 ≤ t ∧ t ≤ D) by omega)]; exact agree_same h _ rfl rfl
      rw [if_neg h3, if_pos (show (1 ≤ t ∧ t ≤ D) by omega)]
      obtain ⟨r, g1, g2⟩ := L (t - f).toNat f 0 (pzI f) (pzI f) (by omega) (by omega) (by omega) (by omega) (by omega)
      exact agree_same h r g1 g2
    by_cases hl : leapP y
    · rw [if_pos hl, if_pos hl]
      exact fin 366 (by omega)
    · rw [if_neg hl, if_neg hl]
      exact fin 365 (by omega)
  · rw [if_neg hy, if_neg hy]
    exact agree_same h _ rfl rfl
theorem sq_rg {s f : Int} (h0 : 0 ≤ s) (h1 : s ≤ 281) (f0 : 1 ≤ f) (f1 : f ≤ 99) : 0 ≤ s * s ∧ s * s ≤ 78961 ∧ 0 ≤ s * s * f ∧ s * s * f ≤ 7817139 ∧ 0 ≤ s * s * f * f ∧ s * s * f * f ≤ 773896761 ∧ 0 ≤ s * f ∧ s * f ≤ 27819 ∧ 0 ≤ s * f * s ∧ s * f * s ≤ 7817139 ∧ s * f * s * f = s * s * f * f := by
  have a1 : 0 ≤ s * s := Int.mul_nonneg h0 h0
  have a2 : s * s ≤ 281 * 281 := Int.mul_le_mul h1 h1 h0 (by omega)
  have b1 : 0 ≤ s * s * f := Int.mul_nonneg a1 (by omega)
  have b2 : s * s * f ≤ 78961 * 99 := Int.mul_le_mul a2 f1 (by omega) (by omega)
  have c1 : 0 ≤ s * s * f * f := Int.mul_nonneg b1 (by omega)
  have c2 : s * s * f * f ≤ 7817139 * 99 := Int.mul_le_mul b2 f1 (by omega) (by omega)
  have d1 : 0 ≤ s * f := Int.mul_nonneg h0 (by omega)
  have d2 : s * f ≤ 281 * 99 := Int.mul_le_mul h1 f1 (by omega) (by omega)
  have e : s * f * s = s * s * f := by rw [Int.mul_assoc, Int.mul_comm f s, ← Int.mul_assoc]
  refine ⟨a1, by omega, b1, by omega, c1, by omega, d1, by omega, by rw [e]; exact b1, by rw [e]; omega, by rw [e]⟩
theorem sq_281 {f : Int} (f0 : 1 ≤ f) : 78961 ≤ 281 * 281 * f * f := by
  have h : 1 * 1 ≤ f * f := Int.mul_le_mul f0 f0 (by omega) (by omega)
  rw [Int.mul_assoc]
  omega
theorem ag_cry {M N : pz_M} (h : rl M N) (x y f : Int) : agree (m_Desk_cry x y f M) (m_Mod_cry x y f N) := by
  rw [m_Desk_cry_eq, m_Mod_cry_eq, Mod_in, bI_some, b01_ite, Mod_in, bI_some, b01_ite, Mod_in, bI_some, b01_ite]
  by_cases hx : 0 ≤ x ∧ x ≤ 99
  · rw [if_neg (show ¬ x < 0 by omega), if_neg (show ¬ 99 < x by omega), if_pos hx]
    by_cases hy : 0 ≤ y ∧ y ≤ 99
    · rw [if_neg (show ¬ y < 0 by omega), if_neg (show ¬ 99 < y by omega), if_pos hy]
      by_cases hf : 1 ≤ f ∧ f ≤ 99
      · rw [if_neg (show ¬ f < 1 by omega), if_neg (show ¬ 99 < f by omega), if_pos hf, m_Reckoner_secondsOf_eq]
        have xx1 : 0 ≤ x * x := Int.mul_nonneg hx.1 hx.1
        have xx2 : x * x ≤ 99 * 99 := Int.mul_le_mul hx.2 hx.2 hx.1 (by omega)
        have yy1 : 0 ≤ y * y := Int.mul_nonneg hy.1 hy.1
        have yy2 : y * y ≤ 99 * 99 := Int.mul_le_mul hy.2 hy.2 hy.1 (by omega)
        rw [imu_eq (x := x) (by omega) (by omega), imu_eq (x := y) (by omega) (by omega), ia_eq (by omega) (by omega), imu_eq (by omega) (by omega)]
        generalize hW : 4 * (x * x + y * y) = W
        have hW2 : W ≤ 78408 := by omega
        have L : ∀ (j : Nat) (s : Int) (a b c e : pz_V), 0 ≤ s → s + j = 281 → ∃ r, m_Reckoner_secondsOf_13 a b f W s M = some (some (pzI r), M) ∧ m_Mod_cry_46 c e f W s N = some (some (pzI r), N) := by
          intro j
          induction j with
          | zero =>
            intro s a b c e h0 hj
            have es : s = 281 := by omega
            subst es
            obtain ⟨p1, p2, p3, p4, p5, p6, p7, p8, p9, p10, p11⟩ := sq_rg (s := 281) (f := f) (by omega) (by omega) hf.1 hf.2
            have p12 := sq_281 hf.1
            refine ⟨281, ?_, ?_⟩
            · rw [m_Reckoner_secondsOf_13_eq, if_pos (show (281 : Int) < 1000 by omega), imu_eq (x := 281) (y := 281) (by omega) (by omega), imu_eq (x := 281 * 281) (by omega) (by omega), imu_eq (by omega) (by omega), if_neg (show ¬ 281 * 281 * f * f < W by omega)]
            · rw [m_Mod_cry_46_eq, imu_eq (x := 281) (y := f) (by omega) (by omega), imu_eq (x := 281 * f) (by omega) (by omega), imu_eq (by omega) (by omega), p11, if_neg (show ¬ 281 * 281 * f * f < W by omega)]
          | succ j ih =>
            intro s a b c e h0 hj
            obtain ⟨p1, p2, p3, p4, p5, p6, p7, p8, p9, p10, p11⟩ := sq_rg (s := s) (f := f) h0 (by omega) hf.1 hf.2
            rw [m_Reckoner_secondsOf_13_eq, if_pos (show s < 1000 by omega), imu_eq (x := s) (y := s) (by omega) (by omega), imu_eq (x := s * s) (by omega) (by omega), imu_eq (x := s * s * f) (by omega) (by omega), m_Mod_cry_46_eq, imu_eq (x := s) (y := f) (by omega) (by omega), imu_eq (x := s * f) (by omega) (by omega), imu_eq (x := s * f * s) (by omega) (by omega), p11, ia_eq (by omega) (by omega)]
            by_cases hlt : s * s * f * f < W
            · rw [if_pos hlt, if_pos hlt]
              exact ih (s + 1) _ _ _ _ (by omega) (by omega)
            · rw [if_neg hlt, if_neg hlt]
              exact ⟨s, rfl, rfl⟩
        obtain ⟨r, g1, g2⟩ := L 281 0 (pzI x) (pzI y) (pzI x) (pzI y) (by omega) (by omega)
        rw [g1, bI_some]
        exact agree_same h r rfl g2
      · rw [if_neg hf]
        by_cases h1 : f < 1
        · rw [if_pos h1]; exact agree_same h _ rfl rfl
        · rw [if_neg h1, if_pos (show 99 < f by omega)]; exact agree_same h _ rfl rfl
    · rw [if_neg hy]
      by_cases h1 : y < 0
      · rw [if_pos h1]; exact agree_same h _ rfl rfl
      · rw [if_neg h1, if_pos (show 99 < y by omega)]; exact agree_same h _ rfl rfl
  · rw [if_neg hx]
    by_cases h1 : x < 0
    · rw [if_pos h1]; exact agree_same h _ rfl rfl
    · rw [if_neg h1, if_pos (show 99 < x by omega)]; exact agree_same h _ rfl rfl
