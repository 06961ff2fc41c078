/-! tails -/
theorem mod_half {b r : Nat} (hr : 0 < r) (hb : r < b) : 2 * (b % r) < b := by
  by_cases h : 2 * r ≤ b
  · have := Nat.mod_lt b hr
    omega
  · rw [Nat.mod_eq_sub_mod (by omega), Nat.mod_eq_of_lt (show b - r < r by omega)]
    omega
theorem gcd_step (a b : Nat) : Nat.gcd b (a % b) = Nat.gcd a b := by
  rw [Nat.gcd_comm b (a % b), ← Nat.gcd_rec b a, Nat.gcd_comm]
theorem Tl_common_L (M : pz_M) : ∀ (j a b x : Nat) (w0 w1 w5 : pz_V), a ≤ 2000000000 → b < 2 ^ j → b ≤ 2000000000 → x + 2 * j < 64 → m_Tails_commonOf_7 w0 w1 (a : Int) (b : Int) (x : Int) w5 M = some (some (pzI ((Nat.gcd a b : Nat) : Int)), M) := by
  have z : ∀ (a x : Nat) (w0 w1 w5 : pz_V), x < 64 → m_Tails_commonOf_7 w0 w1 (a : Int) ((0 : Nat) : Int) (x : Int) w5 M = some (some (pzI ((Nat.gcd a 0 : Nat) : Int)), M) := by
    intro a x w0 w1 w5 hx
    rw [m_Tails_commonOf_7_eq, if_pos (show (x : Int) < 64 by omega), if_pos (show ((0 : Nat) : Int) = 0 from rfl), Nat.gcd_zero_right]
  have st : ∀ (a b x : Nat) (w0 w1 w5 : pz_V), 0 < b → a ≤ 2000000000 → b ≤ 2000000000 → x < 63 → m_Tails_commonOf_7 w0 w1 (a : Int) (b : Int) (x : Int) w5 M = m_Tails_commonOf_7 w0 w1 (b : Int) ((a % b : Nat) : Int) ((x + 1 : Nat) : Int) (pzI ((a % b : Nat) : Int)) M := by
    intro a b x w0 w1 w5 hb ha hb2 hx
    rw [m_Tails_commonOf_7_eq, if_pos (show (x : Int) < 64 by omega), if_neg (show ¬ (b : Int) = 0 by omega), grd_pos (by omega), irm_nn (by omega) (by omega) (by omega) (by omega), ia_eq (by omega) (by omega), ← Int.natCast_emod]
    rfl
  intro j
  induction j with
  | zero =>
    intro a b x w0 w1 w5 ha hb hb2 hx
    have e : b = 0 := by omega
    subst e
    exact z a x w0 w1 w5 (by omega)
  | succ j ih =>
    intro a b x w0 w1 w5 ha hb hb2 hx
    by_cases e : b = 0
    · subst e
      exact z a x w0 w1 w5 (by omega)
    · have h1 := Nat.mod_lt a (show 0 < b by omega)
      rw [st a b x w0 w1 w5 (by omega) ha hb2 (by omega), ← gcd_step a b]
      by_cases e2 : a % b = 0
      · rw [e2]
        exact z b (x + 1) _ _ _ (by omega)
      · have h2 := mod_half (show 0 < a % b by omega) h1
        rw [st b (a % b) (x + 1) _ _ _ (by omega) (by omega) (by omega) (by omega), ← gcd_step b (a % b)]
        rw [Nat.pow_succ] at hb
        exact ih (a % b) (b % (a % b)) (x + 1 + 1) _ _ _ (by omega) (by omega) (by omega) (by omega)
theorem Tl_common {a b : Nat} (ha : a ≤ 2000000000) (hb : b ≤ 255) (M : pz_M) : m_Tails_commonOf (a : Int) (b : Int) M = some (some (pzI ((Nat.gcd a b : Nat) : Int)), M) := by
  rw [m_Tails_commonOf_eq]
  exact Tl_common_L M 8 a b 0 _ _ _ ha (show b < 256 by omega) (by omega) (by omega)
/-- of those from i on, j of them, how many divide t -/
def cq (b : Nat → Nat) (t : Nat) : Nat → Nat → Nat
  | _, 0 => 0
  | i, j + 1 => (if t % b i = 0 then 1 else 0) + cq b t (i + 1) j
theorem cq_le (b : Nat → Nat) (t : Nat) : ∀ j i, cq b t i j ≤ j := by
  intro j
  induction j with
  | zero => intro i; exact Nat.le_refl _
  | succ j ih =>
    intro i
    have := ih (i + 1)
    show (if t % b i = 0 then 1 else 0) + cq b t (i + 1) j ≤ _
    split <;> omega
def sm (M M' : pz_M) : Prop := ∀ c i, ¬ (c = 47 ∧ i = 2) → M' c i = M c i
theorem Tl_choose {n : Nat} {b : Nat → Nat} (hn : n ≤ 12) (hb : ∀ i, i < n → 0 < b i ∧ b i ≤ 255) : ∀ (j i m l B d : Nat) (M : pz_M), i + j = n → m ≤ 12 → 1 ≤ l → l ≤ 2000000000 → B ≤ 100001 → 4 + j ≤ d → M 47 1 = n → M 47 2 = B → (∀ c, c < n → M 48 c = b c) → ∃ (M' : pz_M) (B' : Nat), m_Tails_choose d (i : Int) (m : Int) (l : Int) M = some (none, M') ∧ M' 47 2 = B' ∧ sm M M' ∧ B' ≤ B ∧ (B' = B ∨ (1 ≤ B' ∧ B' % l = 0 ∧ m ≤ cq b B' i j)) ∧ (∀ t, 1 ≤ t → t % l = 0 → m ≤ cq b t i j → B' ≤ t) := by
  intro j
  induction j with
  | zero =>
    intro i m l B d M hj hm l1 l2 hB hd h1 h2 h48
    rw [m_Tails_choose_eq, h1, h2]
    by_cases c : (l : Int) < B
    · rw [if_pos c, isb_eq (by omega) (by omega)]
      by_cases c2 : (n : Int) - i < m
      · rw [if_pos c2]
        refine ⟨M, B, rfl, h2, fun _ _ _ => rfl, Nat.le_refl _, Or.inl rfl, fun t t1 t2 t3 => ?_⟩
        have := cq_le b t 0 i
        omega
      · rw [if_neg c2, if_pos (show (m : Int) = 0 by omega), bM_eq]
        refine ⟨_, l, rfl, wr_same, fun c i z => by unfold pz_wr; rw [if_neg z], by omega, Or.inr ⟨l1, Nat.mod_self l, by omega⟩, fun t t1 t2 _ => Nat.le_of_dvd (by omega) (Nat.dvd_of_mod_eq_zero t2)⟩
    · rw [if_neg c]
      refine ⟨M, B, rfl, h2, fun _ _ _ => rfl, Nat.le_refl _, Or.inl rfl, fun t t1 t2 _ => ?_⟩
      have := Nat.le_of_dvd (by omega) (Nat.dvd_of_mod_eq_zero t2)
      omega
  | succ j ih =>
    intro i m l B d M hj hm l1 l2 hB hd h1 h2 h48
    rw [m_Tails_choose_eq, h1, h2]
    by_cases c : (l : Int) < B
    · rw [if_pos c, isb_eq (by omega) (by omega)]
      by_cases c2 : (n : Int) - i < m
      · rw [if_pos c2]
        refine ⟨M, B, rfl, h2, fun _ _ _ => rfl, Nat.le_refl _, Or.inl rfl, fun t t1 t2 t3 => ?_⟩
        have := cq_le b t (j + 1) i
        omega
      · rw [if_neg c2]
        by_cases c3 : (m : Int) = 0
        · rw [if_pos c3, bM_eq]
          refine ⟨_, l, rfl, wr_same, fun c i z => by unfold pz_wr; rw [if_neg z], by omega, Or.inr ⟨l1, Nat.mod_self l, by omega⟩, fun t t1 t2 _ => Nat.le_of_dvd (by omega) (Nat.dvd_of_mod_eq_zero t2)⟩
        · have hbi := hb i (by omega)
          have hg0 : 0 < Nat.gcd l (b i) := Nat.gcd_pos_of_pos_left _ (by omega)
          have hgl : Nat.gcd l (b i) ∣ l := Nat.gcd_dvd_left _ _
          have hgb : Nat.gcd l (b i) ∣ b i := Nat.gcd_dvd_right _ _
          have hgle := Nat.le_of_dvd (by omega) hgb
          have hq : l / Nat.gcd l (b i) ≤ l := Nat.div_le_self _ _
          have hlc : l / Nat.gcd l (b i) * b i = Nat.lcm l (b i) := by
            rw [Nat.div_mul_right_comm hgl]
            rfl
          have hlc1 : l / Nat.gcd l (b i) * b i ≤ 100001 * 255 := Nat.mul_le_mul (by omega) hbi.2
          have hlc0 : 1 ≤ Nat.lcm l (b i) := Nat.lcm_pos (by omega) hbi.1
          have e48 : M 48 ((i : Int)).toNat = b i := h48 i (by omega)
          have hm0 : 0 ≤ ((l / Nat.gcd l (b i) : Nat) : Int) * ((b i : Nat) : Int) := Int.mul_nonneg (Int.natCast_nonneg _) (Int.natCast_nonneg _)
          have hm1 : ((l / Nat.gcd l (b i) : Nat) : Int) * ((b i : Nat) : Int) ≤ 2147483647 := by
            rw [← Int.natCast_mul]
            exact Int.ofNat_le.mpr (Nat.le_trans hlc1 (by decide))
          rw [if_neg c3, grd_pos (by omega), grd_pos (by omega), e48, Tl_common (by omega) hbi.2, bI_some, if_pos (show 0 < ((Nat.gcd l (b i) : Nat) : Int) by omega), grd_pos (by omega), grd_pos (by omega), grd_pos (by omega), e48, idv_nn (by omega) (by omega) (by omega) (by omega), ← Int.natCast_ediv, imu_eq (Int.le_trans (by decide) hm0) hm1, ← Int.natCast_mul, hlc, ia_eq (x := (i : Int)) (by omega) (by omega), isb_eq (by omega) (by omega), show (m : Int) - 1 = ((m - 1 : Nat) : Int) by omega]
          rw [hlc] at hlc1
          obtain ⟨M1, B1, p1, p2, p3, p4, p5, p6⟩ := ih (i + 1) (m - 1) (Nat.lcm l (b i)) B (d - 1) M (by omega) (by omega) hlc0 (by omega) hB (by omega) h1 h2 h48
          have p1' : m_Tails_choose (d - 1) ((i : Int) + 1) ((m - 1 : Nat) : Int) ((Nat.lcm l (b i) : Nat) : Int) M = some (none, M1) := p1
          rw [p1', bV_some, m_Tails_choose_67_eq, grd_pos (by omega), ia_eq (x := (i : Int)) (by omega) (by omega)]
          obtain ⟨M2, B2, q1, q2, q3, q4, q5, q6⟩ := ih (i + 1) m l B1 (d - 1) M1 (by omega) hm l1 l2 (by omega) (by omega) (by rw [p3 47 1 (by omega)]; exact h1) p2 (fun c hc => by rw [p3 48 c (by omega)]; exact h48 c hc)
          have q1' : m_Tails_choose (d - 1) ((i : Int) + 1) (m : Int) (l : Int) M1 = some (none, M2) := q1
          rw [q1', bV_some]
          refine ⟨M2, B2, rfl, q2, fun c i z => (q3 c i z).trans (p3 c i z), by omega, ?_, ?_⟩
          · rcases q5 with e | ⟨g1, g2, g3⟩
            · rw [e]
              rcases p5 with e' | ⟨g1, g2, g3⟩
              · exact Or.inl e'
              · right
                have d1 : Nat.lcm l (b i) ∣ B1 := Nat.dvd_of_mod_eq_zero g2
                refine ⟨g1, Nat.mod_eq_zero_of_dvd (Nat.dvd_trans (Nat.dvd_lcm_left _ _) d1), ?_⟩
                show m ≤ (if B1 % b i = 0 then 1 else 0) + cq b B1 (i + 1) j
                rw [if_pos (Nat.mod_eq_zero_of_dvd (Nat.dvd_trans (Nat.dvd_lcm_right _ _) d1))]
                omega
            · right
              refine ⟨g1, g2, ?_⟩
              show m ≤ (if B2 % b i = 0 then 1 else 0) + cq b B2 (i + 1) j
              split <;> omega
          · intro t t1 t2 t3
            have t3' : m ≤ (if t % b i = 0 then 1 else 0) + cq b t (i + 1) j := t3
            by_cases e : t % b i = 0
            · rw [if_pos e] at t3'
              have := p6 t t1 (Nat.mod_eq_zero_of_dvd (Nat.lcm_dvd (Nat.dvd_of_mod_eq_zero t2) (Nat.dvd_of_mod_eq_zero e))) (by omega)
              omega
            · rw [if_neg e] at t3'
              exact q6 t t1 t2 (by omega)
    · rw [if_neg c]
      refine ⟨M, B, rfl, h2, fun _ _ _ => rfl, Nat.le_refl _, Or.inl rfl, fun t t1 t2 _ => ?_⟩
      have := Nat.le_of_dvd (by omega) (Nat.dvd_of_mod_eq_zero t2)
      omega
theorem Mod_beats {N : pz_M} {n k : Nat} {b : Nat → Nat} (hn : n ≤ 12) (hb : ∀ i, i < n → 0 < b i ∧ b i ≤ 255) (ho : ∀ i : Nat, i < n → m_Mod_octet (i : Int) N = some (some (pzI (b i)), N)) {t : Nat} (ht : t ≤ 100000) : ∀ (j x c : Nat), x + j = n → c ≤ x → m_Mod_tails_73 n k t c x N = (if c + cq b t x j < k then m_Mod_tails_60 n k ((t : Int) + 1) (pzI ((c + cq b t x j : Nat) : Int)) (pzI n) N else some (some (pzI t), N)) := by
  intro j
  induction j with
  | zero =>
    intro x c hj hc
    have e : x = n := by omega
    subst e
    rw [m_Mod_tails_73_eq, if_neg (show ¬ (x : Int) < x by omega), ia_eq (by omega) (by omega)]
    show _ = if c + 0 < k then m_Mod_tails_60 x k ((t : Int) + 1) (pzI ((c + 0 : Nat) : Int)) (pzI x) N else some (some (pzI t), N)
    by_cases z : c < k
    · rw [if_pos (show (c : Int) < k by omega), if_pos (show c + 0 < k by omega)]
      rfl
    · rw [if_neg (show ¬ (c : Int) < k by omega), if_neg (show ¬ c + 0 < k by omega)]
  | succ j ih =>
    intro x c hj hc
    have hbx := hb x (by omega)
    rw [m_Mod_tails_73_eq, if_pos (show (x : Int) < n by omega), ho x (by omega), bI_some, grd_pos (by omega), irm_nn (by omega) (by omega) (by omega) (by omega), ← Int.natCast_emod, ia_eq (x := (c : Int)) (by omega) (by omega), ia_eq (x := (x : Int)) (by omega) (by omega)]
    have ec : c + cq b t x (j + 1) = c + ((if t % b x = 0 then 1 else 0) + cq b t (x + 1) j) := rfl
    rw [ec]
    by_cases z : t % b x = 0
    · rw [if_pos (show ((t % b x : Nat) : Int) = 0 by omega), if_pos z]
      have := ih (x + 1) (c + 1) (by omega) (by omega)
      rw [show c + 1 + cq b t (x + 1) j = c + (1 + cq b t (x + 1) j) by omega] at this
      exact this
    · rw [if_neg (show ¬ ((t % b x : Nat) : Int) = 0 by omega), if_neg z]
      have := ih (x + 1) c (by omega) (by omega)
      rw [show c + cq b t (x + 1) j = c + (0 + cq b t (x + 1) j) by omega] at this
      exact this
theorem Mod_beat {N : pz_M} {n k : Nat} {b : Nat → Nat} (hn : n ≤ 12) (hb : ∀ i, i < n → 0 < b i ∧ b i ≤ 255) (ho : ∀ i : Nat, i < n → m_Mod_octet (i : Int) N = some (some (pzI (b i)), N)) {B : Nat} (hB : B ≤ 100001) (h1 : B = 100001 ∨ (1 ≤ B ∧ k ≤ cq b B 0 n)) (h2 : ∀ t, 1 ≤ t → k ≤ cq b t 0 n → B ≤ t) : ∀ (j t : Nat) (w4 w5 : pz_V), t + j = B → 1 ≤ t → m_Mod_tails_60 n k t w4 w5 N = some (some (pzI (if B = 100001 then -2 else (B : Int))), N) := by
  intro j
  induction j with
  | zero =>
    intro t w4 w5 hj t1
    have e : t = B := by omega
    subst e
    rw [m_Mod_tails_60_eq]
    by_cases z : t = 100001
    · rw [if_pos (show (100000 : Int) < t by omega), if_pos z]
    · have hk : k ≤ cq b t 0 n := h1.elim (fun y => absurd y z) (fun y => y.2)
      have := Mod_beats hn hb ho (k := k) (show t ≤ 100000 by omega) n 0 0 (by omega) (by omega)
      rw [if_neg (show ¬ 0 + cq b t 0 n < k by omega)] at this
      rw [if_neg (show ¬ (100000 : Int) < t by omega), if_neg z]
      exact this
  | succ j ih =>
    intro t w4 w5 hj t1
    rw [m_Mod_tails_60_eq, if_neg (show ¬ (100000 : Int) < t by omega)]
    have := Mod_beats hn hb ho (k := k) (show t ≤ 100000 by omega) n 0 0 (by omega) (by omega)
    have hk : ¬ k ≤ cq b t 0 n := fun y => by have := h2 t t1 y; omega
    rw [if_pos (show 0 + cq b t 0 n < k by omega)] at this
    exact this.trans (ih (t + 1) _ _ (by omega) (by omega))
theorem ag_tails {M N : pz_M} (h : rl M N) (n k : Int) : agree (m_Desk_tails n k M) (m_Mod_tails n k N) := by
  have hT := h.1
  rw [m_Desk_tails_eq, m_Mod_tails_eq, Tape_take, Mod_in, bI_some, b01_ite, Mod_in, bI_some, b01_ite]
  by_cases hn : 2 ≤ n ∧ n ≤ 12
  rotate_left
  · rw [if_neg hn, if_neg (show ¬ (2 ≤ n ∧ n ≤ 12 ∧ n ≤ M 29 1) by omega), bI_some, if_pos rfl, ite_self, ite_self]
    exact agree_same h _ rfl rfl
  rw [if_pos hn]
  by_cases hk : 1 ≤ k ∧ k ≤ n
  rotate_left
  · rw [if_neg hk]
    by_cases h1 : k < 1
    · rw [if_pos h1]; exact agree_same h _ rfl rfl
    · rw [if_neg h1, if_pos (show n < k by omega)]; exact agree_same h _ rfl rfl
  rw [if_pos hk, if_neg (show ¬ k < 1 by omega), if_neg (show ¬ n < k by omega)]
  by_cases hx : n ≤ M 29 1
  rotate_left
  · rw [if_neg (show ¬ (2 ≤ n ∧ n ≤ 12 ∧ n ≤ M 29 1) by omega), bI_some, if_pos rfl, if_pos (show N 100 8 < n by rw [← hT.1]; omega)]
    exact agree_same h _ rfl rfl
  rw [if_pos (show (2 ≤ n ∧ n ≤ 12 ∧ n ≤ M 29 1) by omega), bI_some, if_neg (show ¬ (1 : Int) = 0 by omega), if_neg (show ¬ N 100 8 < n by rw [← hT.1]; omega), bM_eq]
  have h2 := rl_tk h n
  have hend : tk M n 29 3 = n := tk_end
  generalize tk M n = M1 at h2 hend ⊢
  generalize pz_wr N 100 8 0 = N1 at h2 ⊢
  obtain ⟨m, em⟩ : ∃ m : Nat, n = m := ⟨n.toNat, by omega⟩
  obtain ⟨q, eq⟩ : ∃ q : Nat, k = q := ⟨k.toNat, by omega⟩
  subst em
  subst eq
  have hb : ∀ i, i < 260 → -128 ≤ N1 107 i ∧ N1 107 i ≤ 127 ∧ M1 30 i = N1 107 i % 256 := h2.1.2.2.2
  have hbb : ∀ i, i < m → M1 30 i = ((M1 30 i).toNat : Int) ∧ (M1 30 i).toNat ≤ 255 := by
    intro i hi
    have := (hb i (by omega)).2.2
    omega
  generalize hβ : (fun i => (M1 30 i).toNat) = β
  have hbb' : ∀ i, i < m → M1 30 i = (β i : Int) ∧ β i ≤ 255 := by
    intro i hi
    rw [← hβ]
    exact hbb i hi
  have ho : ∀ i : Nat, i < m → m_Mod_octet (i : Int) N1 = some (some (pzI (β i)), N1) := by
    intro i hi
    have h3 := hb i (by omega)
    rw [Mod_octet (by omega) (by omega) ⟨h3.1, h3.2.1⟩, show ((i : Nat) : Int).toNat = i from rfl, ← h3.2.2, (hbb' i hi).1]
  /- the desk loads them -/
  have LX : ∀ (j x : Nat) (f : Int) (w : pz_V) (M2 : pz_M), x + j = m → f = b01 (allB (fun i => decide (0 < β i)) x = true) → kX M1 M2 → M2 47 1 = m → M2 29 3 = m → (∀ i, i < x → M2 48 i = β i) → ∃ M3, m_Tails_load_19 w f (x : Int) M2 = some (some (pzI (b01 (allB (fun i => decide (0 < β i)) m = true))), M3) ∧ kX M1 M3 ∧ M3 47 1 = m ∧ (∀ i, i < m → M3 48 i = β i) := by
    intro j
    induction j with
    | zero =>
      intro x f w M2 hj hf kx k1 k2 k3
      have e : x = m := by omega
      subst e
      rw [m_Tails_load_19_eq, k1, if_neg (show ¬ (x : Int) < x by omega), hf, b01_grd]
      exact ⟨M2, rfl, kx, k1, k3⟩
    | succ j ih =>
      intro x f w M2 hj hf kx k1 k2 k3
      have hbx := hbb' x (by omega)
      rw [m_Tails_load_19_eq, k1, if_pos (show (x : Int) < m by omega), Tape_byteAt (by omega) (by omega) (by omega), bI_some, grd_pos (by omega), bM_eq, show ((x : Nat) : Int).toNat = x from rfl, kx 30 x rfl, hbx.1, wr_same, ia_eq (by omega) (by omega), grd_pos (by omega)]
      have nx : ∀ g : Int, g = b01 (allB (fun i => decide (0 < β i)) (x + 1) = true) → ∃ M3, m_Tails_load_19 w g ((x : Int) + 1) (pz_wr M2 48 x (β x : Int)) = some (some (pzI (b01 (allB (fun i => decide (0 < β i)) m = true))), M3) ∧ kX M1 M3 ∧ M3 47 1 = m ∧ (∀ i, i < m → M3 48 i = β i) := by
        intro g hg
        refine ih (x + 1) g w _ (by omega) hg (kx.wr rfl) (by rw [wr_cell (by decide)]; exact k1) (by rw [wr_cell (by decide)]; exact k2) (fun i hi => ?_)
        rw [wr_at]
        by_cases e : i = x
        · rw [if_pos e, e]
        · rw [if_neg e]; exact k3 i (by omega)
      have ea : allB (fun i => decide (0 < β i)) (x + 1) = (allB (fun i => decide (0 < β i)) x && decide (0 < β x)) := rfl
      rw [hf, b01_ite]
      cases A : allB (fun i => decide (0 < β i)) x with
      | false =>
        rw [if_neg Bool.false_ne_true]
        exact nx 0 (by rw [ea, A, Bool.false_and, b01_f Bool.false_ne_true])
      | true =>
        rw [if_pos rfl]
        by_cases z : 0 < β x
        · rw [if_pos (show (0 : Int) < (β x : Int) by omega)]
          exact nx 1 (by rw [ea, A, Bool.true_and, decide_eq_true z, b01_t rfl])
        · rw [if_neg (show ¬ (0 : Int) < (β x : Int) by omega)]
          exact nx 0 (by rw [ea, A, Bool.true_and, decide_eq_false z, b01_f Bool.false_ne_true])
  have LY : ∀ (j x : Nat), x + j = m → allB (fun i => decide (0 < β i)) x = true → m_Mod_tails_36 m q x pzN pzN N1 = if allB (fun i => decide (0 < β i)) m = true then m_Mod_tails_60 m q 1 pzN pzN N1 else some (some (pzI (-3)), N1) := by
    intro j
    induction j with
    | zero =>
      intro x hj hal
      have e : x = m := by omega
      subst e
      rw [m_Mod_tails_36_eq, if_neg (show ¬ (x : Int) < x by omega), if_pos hal]
    | succ j ih =>
      intro x hj hal
      rw [m_Mod_tails_36_eq, if_pos (show (x : Int) < m by omega), ho x (by omega), bI_some, ia_eq (by omega) (by omega)]
      by_cases z : 0 < β x
      · rw [if_neg (show ¬ ((β x : Nat) : Int) = 0 by omega)]
        exact ih (x + 1) (by omega) (by show (allB (fun i => decide (0 < β i)) x && decide (0 < β x)) = true; rw [hal, decide_eq_true z]; rfl)
      · rw [if_pos (show ((β x : Nat) : Int) = 0 by omega), if_neg]
        intro y
        have := (allB_iff _ m).mp y x (by omega)
        rw [decide_eq_true_eq] at this
        exact z this
  have e36 : m_Mod_tails_36 m q 0 pzN pzN N1 = if allB (fun i => decide (0 < β i)) m = true then m_Mod_tails_60 m q 1 pzN pzN N1 else some (some (pzI (-3)), N1) := LY m 0 (by omega) rfl
  rw [e36, m_Tails_load_eq, Math_min, bI_some, Math_max, bI_some, bM_eq, show max 0 (min (m : Int) 12) = m by omega]
  obtain ⟨M3, l1, l2, l3, l4⟩ := LX m 0 1 (pzI m) (pz_wr M1 47 1 (m : Int)) (by omega) (b01_t (P := allB (fun i => decide (0 < β i)) 0 = true) rfl).symm ((kX.rf M1).wr rfl) wr_same (by rw [wr_cell (by decide)]; exact hend) (fun i hi => by omega)
  have l1' : m_Tails_load_19 (pzI m) 1 0 (pz_wr M1 47 1 (m : Int)) = some (some (pzI (b01 (allB (fun i => decide (0 < β i)) m = true))), M3) := l1
  rw [l1', bI_some, b01_ite]
  by_cases A : allB (fun i => decide (0 < β i)) m = true
  rotate_left
  · rw [if_neg A, if_neg A]
    exact ⟨-3, M3, N1, rfl, rfl, rl_keep h2 l2 (kY.rf N1)⟩
  rw [if_pos A, if_pos A, m_Tails_firstBeat_eq, bM_eq]
  have hpos : ∀ i, i < m → 0 < β i ∧ β i ≤ 255 := fun i hi => ⟨by have := (allB_iff _ m).mp A i hi; rw [decide_eq_true_eq] at this; exact this, (hbb' i hi).2⟩
  obtain ⟨M4, B, c1, c2, c3, c4, c5, c6⟩ := Tl_choose (n := m) (b := β) (by omega) hpos m 0 q 1 100001 29 (pz_wr M3 47 2 100001) (by omega) (by omega) (by omega) (by omega) (by omega) (by omega) (by rw [wr_idx (by decide)]; exact l3) wr_same (fun c hc => by rw [wr_cell (by decide)]; exact l4 c hc)
  have c1' : m_Tails_choose 29 0 (q : Int) 1 (pz_wr M3 47 2 100001) = some (none, M4) := c1
  have kx4 : kX M1 M4 := by
    intro c i z
    rw [c3 c i (by intro y; rw [y.1, y.2] at z; exact Bool.noConfusion z)]
    exact (l2.wr rfl) c i z
  have hr := Mod_beat (by omega) hpos ho (k := q) c4 (c5.imp id (fun y => ⟨y.1, y.2.2⟩)) (fun t t1 t2 => c6 t t1 (Nat.mod_one t) t2) (B - 1) 1 pzN pzN (by rcases c5 with e | ⟨e, _⟩ <;> omega) (by omega)
  have hr' : m_Mod_tails_60 m q 1 pzN pzN N1 = _ := hr
  rw [c1', bV_some, c2, hr']
  by_cases z : B = 100001
  · rw [if_pos (show (100000 : Int) < (B : Int) by omega), if_pos z, bI_some]
    exact ⟨-2, M4, N1, rfl, rfl, rl_keep h2 kx4 (kY.rf N1)⟩
  · rw [if_neg (show ¬ (100000 : Int) < (B : Int) by omega), if_neg z, bI_some]
    exact ⟨B, M4, N1, rfl, rfl, rl_keep h2 kx4 (kY.rf N1)⟩
