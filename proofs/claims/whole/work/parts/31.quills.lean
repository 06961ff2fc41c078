/-! quills -/
def qS (f : Nat → Int) (n : Int) : Nat → Int
  | 0 => 0
  | k + 1 => qS f n k + f k * (n - (k : Int))
theorem pw_rg {p w : Int} (h0 : 0 ≤ p) (h1 : p ≤ 9) (w0 : 0 ≤ w) (w1 : w ≤ 12) : 0 ≤ p * w ∧ p * w ≤ 108 := by
  have a := Int.mul_nonneg h0 w0
  have b : p * w ≤ 9 * 12 := Int.mul_le_mul h1 w1 w0 (by omega)
  exact ⟨a, by omega⟩
theorem qS_rg {f : Nat → Int} {n : Int} (hn : n ≤ 12) (hf : ∀ i : Nat, (i : Int) < n → 0 ≤ f i ∧ f i ≤ 9) : ∀ k : Nat, (k : Int) ≤ n → 0 ≤ qS f n k ∧ qS f n k ≤ 108 * k := by
  intro k
  induction k with
  | zero => intro _; exact ⟨Int.le_refl _, Int.le_refl _⟩
  | succ k ih =>
    intro hk
    have h1 := ih (by omega)
    have h2 := hf k (by omega)
    have h3 := pw_rg (w := n - k) h2.1 h2.2 (by omega) (by omega)
    show 0 ≤ qS f n k + f k * (n - (k : Int)) ∧ qS f n k + f k * (n - (k : Int)) ≤ _
    omega
theorem qS_congr {f g : Nat → Int} {n : Int} : ∀ k : Nat, (∀ i, i < k → f i = g i) → qS f n k = qS g n k := by
  intro k
  induction k with
  | zero => intro _; rfl
  | succ k ih =>
    intro h
    show qS f n k + f k * _ = qS g n k + g k * _
    rw [ih (fun i hi => h i (by omega)), h k (by omega)]
theorem qS_upd {f : Nat → Int} {n v : Int} {j : Nat} : ∀ k : Nat, j < k → qS (fun i => if i = j then v else f i) n k = qS f n k + (v - f j) * (n - j) := by
  intro k
  induction k with
  | zero => intro h; omega
  | succ k ih =>
    intro h
    show qS _ n k + (if k = j then v else f k) * (n - (k : Int)) = qS f n k + f k * (n - (k : Int)) + (v - f j) * (n - (j : Int))
    by_cases e : k = j
    · rw [if_pos e, qS_congr (g := f) k (fun i hi => by rw [if_neg (by omega)]), e, Int.sub_mul]
      omega
    · rw [if_neg e, ih (by omega)]
      omega
theorem Rck_quillRest {M : pz_M} {n : Int} (h0 : 0 ≤ n) (hn : n ≤ 12) (he : n ≤ M 29 3) (hf : ∀ i : Nat, (i : Int) < n → 0 ≤ M 30 i ∧ M 30 i ≤ 9) : m_Reckoner_quillRest n M = some (some (pzI (qS (M 30) n n.toNat % 11)), M) := by
  have L : ∀ (j : Nat) (x : Int), 0 ≤ x → x + j = n → m_Reckoner_quillRest_4 n (qS (M 30) n x.toNat) x M = some (some (pzI (qS (M 30) n n.toNat % 11)), M) := by
    intro j
    induction j with
    | zero =>
      intro x x0 hj
      have e : x = n := by omega
      subst e
      have := qS_rg hn hf x.toNat (by omega)
      rw [m_Reckoner_quillRest_4_eq, if_neg (show ¬ x < x by omega), irm_nn this.1 (by omega) (by omega) (by omega)]
    | succ j ih =>
      intro x x0 hj
      have h1 := qS_rg hn hf x.toNat (by omega)
      have h2 := hf x.toNat (by omega)
      have h3 := pw_rg (w := n - x) h2.1 h2.2 (by omega) (by omega)
      rw [m_Reckoner_quillRest_4_eq, if_pos (show x < n by omega), Tape_byteAt x0 (by omega) (by omega), bI_some, isb_eq (by omega) (by omega), imu_eq (by omega) (by omega), ia_eq (x := x) (by omega) (by omega), ia_eq (by omega) (by omega), ← ih (x + 1) (by omega) (by omega), show (x + 1).toNat = x.toNat + 1 by omega]
      show _ = m_Reckoner_quillRest_4 n (qS (M 30) n x.toNat + M 30 x.toNat * (n - (x.toNat : Int))) (x + 1) M
      rw [show (x.toNat : Int) = x by omega]
  rw [m_Reckoner_quillRest_eq]
  exact L n.toNat 0 (by omega) (by omega)
theorem Mod_elevens {N : pz_M} {n a v : Int} (h0 : 0 ≤ n) (hn : n ≤ 12) (hv : 0 ≤ v ∧ v ≤ 9) (hb : ∀ i, i < 260 → -128 ≤ N 107 i ∧ N 107 i ≤ 127) (hf : ∀ i : Nat, (i : Int) < n → N 107 i % 256 ≤ 9) : m_Mod_elevens n a v N = some (some (pzI (qS (fun i => if (i : Int) = a then v else N 107 i % 256) n n.toNat % 11)), N) := by
  generalize hg : (fun i : Nat => if (i : Int) = a then v else N 107 i % 256) = g
  have hgg : ∀ i : Nat, (i : Int) < n → 0 ≤ g i ∧ g i ≤ 9 := by
    intro i hi
    rw [← hg]
    show 0 ≤ (if (i : Int) = a then v else N 107 i % 256) ∧ (if (i : Int) = a then v else N 107 i % 256) ≤ 9
    have := hf i hi
    split <;> omega
  have L : ∀ (j : Nat) (x : Int), 0 ≤ x → x + j = n → m_Mod_elevens_6 n a v (qS g n x.toNat) x N = some (some (pzI (qS g n n.toNat % 11)), N) := by
    intro j
    induction j with
    | zero =>
      intro x x0 hj
      have e : x = n := by omega
      subst e
      have := qS_rg hn hgg x.toNat (by omega)
      rw [m_Mod_elevens_6_eq, if_neg (show ¬ x < x by omega), irm_nn this.1 (by omega) (by omega) (by omega)]
    | succ j ih =>
      intro x x0 hj
      have h1 := qS_rg hn hgg x.toNat (by omega)
      have h2 := hgg x.toNat (by omega)
      have h3 := pw_rg (w := n - x) h2.1 h2.2 (by omega) (by omega)
      have step : m_Mod_elevens_6 n a v (ia (qS g n x.toNat) (imu (g x.toNat) (isb n x))) (ia x 1) N = some (some (pzI (qS g n n.toNat % 11)), N) := by
        rw [isb_eq (by omega) (by omega), imu_eq (by omega) (by omega), ia_eq (x := x) (by omega) (by omega), ia_eq (by omega) (by omega), ← ih (x + 1) (by omega) (by omega), show (x + 1).toNat = x.toNat + 1 by omega]
        show _ = m_Mod_elevens_6 n a v (qS g n x.toNat + g x.toNat * (n - (x.toNat : Int))) (x + 1) N
        rw [show (x.toNat : Int) = x by omega]
      rw [m_Mod_elevens_6_eq, if_pos (show x < n by omega)]
      by_cases e : x = a
      · rw [if_pos e, m_Mod_elevens_30_eq, ← step, show g x.toNat = v by rw [← hg]; exact if_pos (by omega)]
      · rw [if_neg e, Mod_octet x0 (by omega) (hb _ (by omega)), bI_some, m_Mod_elevens_30_eq, ← step, show g x.toNat = N 107 x.toNat % 256 by rw [← hg]; exact if_neg (by omega)]
  rw [m_Mod_elevens_eq]
  exact L n.toNat 0 (by omega) (by omega)
theorem fm_dec : ∀ k : Fin 20, (if ixo (((k : Nat) : Int) - 10) 11 < 0 then (if irm (((k : Nat) : Int) - 10) 11 = 0 then irm (((k : Nat) : Int) - 10) 11 else ia (irm (((k : Nat) : Int) - 10) 11) 11) else irm (((k : Nat) : Int) - 10) 11) = (((k : Nat) : Int) - 10) % 11 := by decide
theorem Math_floorMod {x : Int} (h0 : -10 ≤ x) (h1 : x ≤ 9) (M : pz_M) : m_Math_floorMod x 11 M = some (some (pzI (x % 11)), M) := by
  have h := fm_dec ⟨(x + 10).toNat, by omega⟩
  have e : (((⟨(x + 10).toNat, by omega⟩ : Fin 20) : Nat) : Int) - 10 = x := by show (((x + 10).toNat : Nat) : Int) - 10 = x; omega
  rw [e] at h
  rw [m_Math_floorMod_eq, grd_pos (by decide), ← h]
  by_cases a : ixo x 11 < 0
  · rw [if_pos a, if_pos a]
    by_cases b : irm x 11 = 0
    · rw [if_pos b, if_pos b]
    · rw [if_neg b, if_neg b]
  · rw [if_neg a, if_neg a]
theorem irm_z {x : Int} (h0 : -2147483648 ≤ x) (h1 : x ≤ 2147483647) : irm x 11 = 0 ↔ x % 11 = 0 := by
  rw [irm_eq (in_iff.mpr ⟨h0, h1⟩) (in_iff.mpr ⟨by omega, by omega⟩) (by omega)]
  constructor
  · intro h; exact Int.emod_eq_zero_of_dvd (Int.dvd_of_tmod_eq_zero h)
  · intro h; exact Int.tmod_eq_zero_of_dvd (Int.dvd_of_emod_eq_zero h)
theorem pw_rg2 {p w : Int} (h0 : -9 ≤ p) (h1 : p ≤ 9) (w0 : 0 ≤ w) (w1 : w ≤ 12) : -108 ≤ p * w ∧ p * w ≤ 108 := by
  by_cases h : 0 ≤ p
  · have := pw_rg h h1 w0 w1; omega
  · have := pw_rg (p := -p) (w := w) (by omega) (by omega) w0 w1
    rw [Int.neg_mul] at this; omega
theorem ag_quills {M N : pz_M} (h : rl M N) (n q : Int) : agree (m_Desk_quills n q M) (m_Mod_quills n q N) := by
  have hT := h.1
  rw [m_Desk_quills_eq, m_Mod_quills_eq, Tape_take, Mod_in, bI_some, b01_ite, Mod_in, bI_some, b01_ite]
  by_cases hq : 0 ≤ q ∧ q ≤ 2
  rotate_left
  · rw [if_neg hq, ite_self]
    by_cases h1 : q < 0
    · rw [if_pos h1]; exact agree_same h _ rfl rfl
    · rw [if_neg h1, if_pos (show 2 < q by omega)]; exact agree_same h _ rfl rfl
  rw [if_neg (show ¬ q < 0 by omega), if_neg (show ¬ 2 < q by omega), if_pos hq]
  by_cases hx : 2 ≤ n ∧ n ≤ 12 ∧ n ≤ M 29 1
  rotate_left
  · rw [if_neg hx, bI_some, if_pos rfl]
    by_cases h1 : 2 ≤ n ∧ n ≤ 12
    · rw [if_pos h1, if_pos (show N 100 8 < n by rw [← hT.1]; omega)]
      exact agree_same h _ rfl rfl
    · rw [if_neg h1]
      exact agree_same h _ rfl rfl
  rw [if_pos hx, bI_some, if_neg (show ¬ (1 : Int) = 0 by omega), if_pos (show 2 ≤ n ∧ n ≤ 12 by omega), if_neg (show ¬ N 100 8 < n by rw [← hT.1]; omega), bM_eq]
  have h2 := rl_tk h n
  have hend : tk M n 29 3 = n := tk_end
  generalize tk M n = M1 at h2 hend ⊢
  generalize pz_wr N 100 8 0 = N1 at h2 ⊢
  have hb : ∀ i, i < 260 → -128 ≤ N1 107 i ∧ N1 107 i ≤ 127 ∧ M1 30 i = N1 107 i % 256 := h2.1.2.2.2
  have fin : (∀ i : Nat, (i : Int) < n → M1 30 i ≤ 9) → ∃ r, m_Desk_quills_27 n q n M1 = some (some (pzI r), M1) ∧ m_Mod_quills_36 n q n pzN pzN N1 = some (some (pzI r), N1) := by
    intro hf
    have hf0 : ∀ i : Nat, (i : Int) < n → 0 ≤ M1 30 i ∧ M1 30 i ≤ 9 := by
      intro i hi
      have a := hf i hi
      have b := (hb i (by omega)).2.2
      exact ⟨by omega, a⟩
    have hfN : ∀ i : Nat, (i : Int) < n → N1 107 i % 256 ≤ 9 := by
      intro i hi
      rw [← (hb i (by omega)).2.2]
      exact hf i hi
    have hb2 : ∀ i, i < 260 → -128 ≤ N1 107 i ∧ N1 107 i ≤ 127 := fun i hi => ⟨(hb i hi).1, (hb i hi).2.1⟩
    have eU : ∀ (a : Nat) (v : Int), (a : Int) < n → qS (fun i => if (i : Int) = (a : Int) then v else N1 107 i % 256) n n.toNat = qS (M1 30) n n.toNat + (v - M1 30 a) * (n - a) := by
      intro a v ha
      rw [← qS_upd n.toNat (by omega)]
      apply qS_congr
      intro i hi
      rw [(hb i (by omega)).2.2]
      by_cases e : i = a
      · rw [if_pos e, if_pos (by omega)]
      · rw [if_neg e, if_neg (by omega)]
    have hS := qS_rg (by omega) hf0 n.toNat (by omega)
    generalize hSS : qS (M1 30) n n.toNat = S at hS eU
    have hE := fun a v hv => Mod_elevens (N := N1) (n := n) (a := a) (v := v) (by omega) (by omega) hv hb2 hfN
    rw [m_Desk_quills_27_eq, if_neg (show ¬ n < n by omega), Rck_quillRest (by omega) (by omega) (by omega) hf0, bI_some, hSS, m_Mod_quills_36_eq, if_neg (show ¬ n < n by omega)]
    by_cases q0 : q = 0
    · have e : qS (fun i => if (i : Int) = -1 then 0 else N1 107 i % 256) n n.toNat = S := by
        rw [← hSS]
        apply qS_congr
        intro i hi
        rw [if_neg (by omega), (hb i (by omega)).2.2]
      rw [if_pos q0, if_pos q0, hE (-1) 0 (by omega), bI_some, e]
      by_cases z : S % 11 = 0
      · rw [if_pos z, if_pos z]; exact ⟨_, rfl, rfl⟩
      · rw [if_neg z, if_neg z]; exact ⟨_, rfl, rfl⟩
    rw [if_neg q0, if_neg q0]
    by_cases q1 : q = 1
    · have hl := hf0 (n - 1).toNat (by omega)
      have e := eU (n - 1).toNat 0 (by omega)
      rw [show (((n - 1).toNat : Nat) : Int) = n - 1 by omega, show n - (n - 1) = 1 by omega, Int.mul_one] at e
      rw [if_pos q1, if_pos q1, isb_eq (x := n) (by omega) (by omega), Tape_byteAt (by omega) (by omega) (by omega), bI_some, isb_eq (by omega) (by omega), Math_floorMod (by omega) (by omega), bI_some, hE (n - 1) 0 (by omega), bI_some, e]
      generalize M1 30 (n - 1).toNat = b at hl ⊢
      rw [isb_eq (by omega) (by omega), irm_nn (by omega) (by omega) (by omega) (by omega), show (11 - (S + (0 - b)) % 11) % 11 = (b - S % 11) % 11 by omega]
      exact ⟨_, rfl, rfl⟩
    rw [if_neg q1, if_neg q1, m_Reckoner_quillWays_eq]
    have L : ∀ (j : Nat) (x c : Int) (w5 w6 u v : pz_V), 0 ≤ x → x + j = n → 0 ≤ c → c ≤ 10 * x → ∃ r, m_Reckoner_quillWays_5 n (S % 11) c x w5 w6 M1 = some (some (pzI r), M1) ∧ m_Mod_quills_106 n u c x v N1 = some (some (pzI r), N1) := by
      intro j
      induction j with
      | zero =>
        intro x c w5 w6 u v x0 hj c0 c1
        exact ⟨c, by rw [m_Reckoner_quillWays_5_eq, if_neg (show ¬ x < n by omega)], by rw [m_Mod_quills_106_eq, if_neg (show ¬ x < n by omega)]⟩
      | succ j ih =>
        intro x c w5 w6 u v x0 hj c0 c1
        rw [m_Reckoner_quillWays_5_eq, if_pos (show x < n by omega), Tape_byteAt x0 (by omega) (by omega), bI_some, m_Mod_quills_106_eq, if_pos (show x < n by omega)]
        have hl := hf0 x.toNat (by omega)
        have oc : m_Mod_octet x N1 = some (some (pzI (M1 30 x.toNat)), N1) := by rw [Mod_octet x0 (by omega) (hb2 _ (by omega)), (hb x.toNat (by omega)).2.2]
        have eU2 := fun v => eU x.toNat v (by omega)
        rw [show ((x.toNat : Nat) : Int) = x by omega] at eU2
        generalize M1 30 x.toNat = b at hl oc eU2 ⊢
        have I : ∀ (i : Nat) (d c : Int), 0 ≤ d → d + i = 10 → 0 ≤ c → c ≤ 10 * x + d → ∃ r, m_Reckoner_quillWays_22 n (S % 11) c x b d M1 = some (some (pzI r), M1) ∧ m_Mod_quills_115 n u c x d N1 = some (some (pzI r), N1) := by
          intro i
          induction i with
          | zero =>
            intro d c d0 hi c0 c1
            rw [m_Reckoner_quillWays_22_eq, if_pos (show 9 < d by omega), m_Mod_quills_115_eq, if_neg (show ¬ d < 10 by omega), ia_eq (by omega) (by omega)]
            exact ih (x + 1) c _ _ _ _ (by omega) (by omega) c0 (by omega)
          | succ i ih2 =>
            intro d c d0 hi c0 c1
            rw [m_Reckoner_quillWays_22_eq, if_neg (show ¬ 9 < d by omega), m_Mod_quills_115_eq, if_pos (show d < 10 by omega), oc, bI_some, ia_eq (x := d) (by omega) (by omega), ia_eq (x := c) (by omega) (by omega)]
            by_cases e : d = b
            · rw [if_pos e, if_pos e]
              exact ih2 (d + 1) c (by omega) (by omega) c0 (by omega)
            · have hp := pw_rg2 (p := d - b) (w := n - x) (by omega) (by omega) (by omega) (by omega)
              rw [if_neg e, if_neg e, isb_eq (x := n) (by omega) (by omega), isb_eq (x := d) (by omega) (by omega), imu_eq (by omega) (by omega), ia_eq (x := S % 11) (by omega) (by omega), hE x d (by omega), bI_some, eU2 d]
              generalize (d - b) * (n - x) = p at hp ⊢
              have hz := irm_z (x := S % 11 + p) (by omega) (by omega)
              by_cases z : (S + p) % 11 = 0
              · rw [if_pos (hz.mpr (by omega)), if_pos z]
                exact ih2 (d + 1) (c + 1) (by omega) (by omega) (by omega) (by omega)
              · rw [if_neg (fun y => z (by have := hz.mp y; omega)), if_neg z]
                exact ih2 (d + 1) c (by omega) (by omega) (by omega) (by omega)
        exact I 10 0 c (by omega) (by omega) c0 (by omega)
    obtain ⟨r, g1, g2⟩ := L n.toNat 0 0 pzN pzN (pzI q) pzN (by omega) (by omega) (by omega) (by omega)
    exact ⟨r, by rw [g1, bI_some], g2⟩
  have L : ∀ (j : Nat) (x : Int), 0 ≤ x → x + j = n → (∀ i : Nat, (i : Int) < x → M1 30 i ≤ 9) → ∃ r, m_Desk_quills_27 n q x M1 = some (some (pzI r), M1) ∧ m_Mod_quills_36 n q x pzN pzN N1 = some (some (pzI r), N1) := by
    intro j
    induction j with
    | zero =>
      intro x x0 hj hf
      have e : x = n := by omega
      rw [e] at hf ⊢
      exact fin hf
    | succ j ih =>
      intro x x0 hj hf
      have hbx := hb x.toNat (by omega)
      rw [m_Desk_quills_27_eq, if_pos (show x < n by omega), Tape_byteAt x0 (by omega) (by omega), bI_some, m_Mod_quills_36_eq, if_pos (show x < n by omega), Mod_octet x0 (by omega) ⟨hbx.1, hbx.2.1⟩, bI_some, ← hbx.2.2, ia_eq (by omega) (by omega)]
      by_cases h9 : 9 < M1 30 x.toNat
      · rw [if_pos h9, if_pos h9]; exact ⟨_, rfl, rfl⟩
      · rw [if_neg h9, if_neg h9]
        refine ih (x + 1) (by omega) (by omega) (fun i hi => ?_)
        by_cases e : (i : Int) < x
        · exact hf i e
        · rw [show i = x.toNat by omega]; omega
  obtain ⟨r, g1, g2⟩ := L n.toNat 0 (by omega) (by omega) (fun i hi => by omega)
  exact agree_same h2 r g1 g2
