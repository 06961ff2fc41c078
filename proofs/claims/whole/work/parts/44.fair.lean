theorem xor_lt {S X : Nat} (h : sub2 X S) (h0 : 0 < X) : S ^^^ X < S := by
  have e : (S ^^^ X) &&& S = S ^^^ X := sub2_of (fun i hi => by
    rw [Nat.testBit_xor] at hi
    have := sub2_bit h i
    cases q : S.testBit i <;> cases q2 : X.testBit i <;> simp_all)
  have le : S ^^^ X ≤ S := by rw [← e]; exact Nat.and_le_right
  have ne : S ^^^ X ≠ S := by
    intro z
    have : X = 0 := by
      apply Nat.eq_of_testBit_eq
      intro i
      rw [Nat.zero_testBit]
      have := congrArg (fun y => y.testBit i) z
      rw [Nat.testBit_xor] at this
      cases q : S.testBit i <;> cases q2 : X.testBit i <;> simp_all
    omega
  omega
def fr7 (N N' : pz_M) : Prop := ∀ c i, c ≠ 127 → N' c i = N c i
theorem Mod_fair81 {w : Nat → Int} {m r S : Nat} {k : Int} {F : Nat → Int} (hm : m ≤ 10) (hw : ∀ i, i < m → 0 ≤ w i) (hr : 1 ≤ r) (hSm : S < 2 ^ m) (hF : ∀ X, X ≤ S → lst w m r X (F X)) : ∀ (n X : Nat) (N : pz_M) (V : Int), X ≤ n → sub2 X S → N 127 S = V → (∀ Y, Y < S → N 127 Y = F Y) → (∀ T, T < 2 ^ m → N 126 T = sS w m T) → 0 ≤ V → V ≤ F S → (∃ c : Nat → Nat, (∀ i, c i < r + 1) ∧ ∀ h, h < r + 1 → ld (wS w S) c h 0 m ≤ V) → (∀ T, X < T → 0 < T → sub2 T S → V ≤ sS w m T ∨ V ≤ F (S ^^^ T)) → ∃ (N' : pz_M), m_Mod_fair_81 k m r S X N = m_Mod_fair_72 k m r ((S : Int) - 1) (pzI 0) N' ∧ lst w m (r + 1) S (N' 127 S) ∧ ∀ c i, ¬ (c = 127 ∧ i = S) → N' c i = N c i := by
  have h1024 : 2 ^ m ≤ 1024 := show 2 ^ m ≤ 2 ^ 10 from Nat.pow_le_pow_right (by omega) hm
  intro n
  induction n with
  | zero =>
    intro X N V hX hs h1 h2 h3 v0 hV hsd hvis
    have e : X = 0 := by omega
    subst e
    refine ⟨N, ?_, ?_, fun _ _ _ => rfl⟩
    · rw [m_Mod_fair_81_eq, if_neg (show ¬ (0 : Int) < ((0 : Nat) : Int) by omega), ia_eq (by omega) (by omega)]
      rfl
    · rw [h1]
      exact ⟨v0, hsd, fun v c => lst_all hr hSm hF hV (fun T t0 ts => hvis T t0 t0 ts) v c⟩
  | succ n ih =>
    intro X N V hX hs h1 h2 h3 v0 hV hsd hvis
    by_cases e : X = 0
    · exact ih X N V (by omega) hs h1 h2 h3 v0 hV hsd hvis
    · have hXS : X ≤ S := by unfold sub2 at hs; rw [← hs]; exact Nat.and_le_right
      have hxl := xor_lt hs (by omega)
      have hd := dif_nat (a := S) (b := X) (by omega) (by omega) (sub2_bit hs)
      have hsx := sS_nn hw X
      rw [m_Mod_fair_81_eq, if_pos (show (0 : Int) < (X : Int) by omega), hd, grd_pos (by omega), grd_pos (by omega), grd_pos (by omega), show ((S : Nat) : Int).toNat = S from rfl, show ((X : Nat) : Int).toNat = X from rfl, show ((S ^^^ X : Nat) : Int).toNat = S ^^^ X from rfl, h3 X (by omega), h2 _ hxl, Mod_max, bI_some, h1, Mod_min, bI_some, grd_pos (by omega), bM_eq, isb_eq (by omega) (by omega), show (X : Int) - 1 = ((X - 1 : Nat) : Int) by omega, ian_nat (by omega)]
      have hFx := hF _ (show S ^^^ X ≤ S by omega)
      have hs' : sub2 ((X - 1) &&& S) S := sub2_of (fun i hi => by rw [Nat.testBit_and, Bool.and_eq_true] at hi; exact hi.2)
      have hle : (X - 1) &&& S ≤ X - 1 := Nat.and_le_left
      obtain ⟨N', g1, g2, g3⟩ := ih ((X - 1) &&& S) (pz_wr N 127 S (min V (max (sS w m X) (F (S ^^^ X))))) (min V (max (sS w m X) (F (S ^^^ X)))) (by omega) hs' wr_same (fun Y hY => by rw [wr_idx (by omega)]; exact h2 Y hY) (fun T hT => by rw [wr_cell (by decide)]; exact h3 T hT) (by have := hFx.1; omega) (by omega) (by
        by_cases q : V ≤ max (sS w m X) (F (S ^^^ X))
        · rw [Int.min_eq_left q]; exact hsd
        · rw [Int.min_eq_right (by omega)]
          exact lst_hand hs hFx (by omega) (by omega)) (fun T hT t0 ts => by
        by_cases q : T = X
        · rw [q]; omega
        · by_cases q2 : T < X
          · have := next_sub S S X T (Nat.le_refl _) hs ts q2
            omega
          · have := hvis T (by omega) t0 ts
            omega)
      exact ⟨N', g1, g2, fun c i z => by rw [g3 c i z]; unfold pz_wr; rw [if_neg z]⟩
theorem Mod_fair72 {w : Nat → Int} {m r : Nat} {k : Int} (hm : m ≤ 10) (hw : ∀ i, i < m → 0 ≤ w i) (hr : 1 ≤ r) : ∀ (S : Nat) (N : pz_M) (w5 : pz_V), S < 2 ^ m → (∀ T, T < 2 ^ m → N 126 T = sS w m T) → (∀ X, X ≤ S → lst w m r X (N 127 X)) → (∀ X, S < X → X < 2 ^ m → lst w m (r + 1) X (N 127 X)) → ∃ (N' : pz_M) (u5 : pz_V), m_Mod_fair_72 k m r S w5 N = m_Mod_fair_60 k m (ia (r : Int) 1) (pzI 0) u5 N' ∧ (∀ X, X < 2 ^ m → lst w m (r + 1) X (N' 127 X)) ∧ fr7 N N' := by
  have h1024 : 2 ^ m ≤ 1024 := show 2 ^ m ≤ 2 ^ 10 from Nat.pow_le_pow_right (by omega) hm
  intro S
  induction S with
  | zero =>
    intro N w5 hS h3 hlo hhi
    refine ⟨N, w5, ?_, fun X hX => ?_, fun _ _ _ => rfl⟩
    · rw [m_Mod_fair_72_eq, if_neg (show ¬ (0 : Int) < ((0 : Nat) : Int) by omega)]
      rfl
    · by_cases e : X = 0
      · rw [e]; exact lst_0 (hlo 0 (Nat.le_refl _)) hr
      · exact hhi X (by omega) hX
  | succ S ih =>
    intro N w5 hS h3 hlo hhi
    rw [m_Mod_fair_72_eq, if_pos (show (0 : Int) < ((S + 1 : Nat) : Int) by omega)]
    have hl := hlo (S + 1) (Nat.le_refl _)
    obtain ⟨N1, g1, g2, g3⟩ := Mod_fair81 (k := k) (F := N 127) hm hw hr hS hlo (S + 1) (S + 1) N (N 127 (S + 1)) (Nat.le_refl _) (by unfold sub2; exact Nat.and_self _) rfl (fun _ _ => rfl) h3 hl.1 (Int.le_refl _) (lst_up hl) (fun T t1 t0 ts => by
      have : T ≤ S + 1 := by unfold sub2 at ts; rw [← ts]; exact Nat.and_le_right
      omega)
    rw [g1, show ((S + 1 : Nat) : Int) - 1 = (S : Int) by omega]
    obtain ⟨N', u5, q1, q2, q3⟩ := ih N1 (pzI 0) (by omega) (fun T hT => by rw [g3 126 T (by omega)]; exact h3 T hT) (fun X hX => by rw [g3 127 X (by omega)]; exact hlo X (by omega)) (fun X h1 h2 => by
      by_cases e : X = S + 1
      · rw [e]; exact g2
      · rw [g3 127 X (by omega)]; exact hhi X (by omega) h2)
    exact ⟨N', u5, q1, q2, fun c i z => by rw [q3 c i z, g3 c i (by omega)]⟩
theorem Mod_fair60 {w : Nat → Int} {m k : Nat} (hm : m ≤ 10) (hk : k ≤ 4) (hw : ∀ i, i < m → 0 ≤ w i) : ∀ (j r : Nat) (N : pz_M) (w4 w5 : pz_V), r + j = k → 1 ≤ r → (∀ T, T < 2 ^ m → N 126 T = sS w m T) → (∀ X, X < 2 ^ m → lst w m r X (N 127 X)) → ∃ (N' : pz_M) (V : Int), m_Mod_fair_60 k m r w4 w5 N = some (some (pzI V), N') ∧ lst w m k (2 ^ m - 1) V ∧ fr7 N N' := by
  have h1024 : 2 ^ m ≤ 1024 := show 2 ^ m ≤ 2 ^ 10 from Nat.pow_le_pow_right (by omega) hm
  have hp : 0 < 2 ^ m := Nat.two_pow_pos m
  have ef : isb (ihl 1 (m : Int)) 1 = ((2 ^ m - 1 : Nat) : Int) := by rw [ihl_1 (by omega), isb_eq (by omega) (by omega)]; omega
  intro j
  induction j with
  | zero =>
    intro r N w4 w5 hj r1 h3 hl
    have e : r = k := by omega
    subst e
    refine ⟨N, N 127 (2 ^ m - 1), ?_, hl _ (by omega), fun _ _ _ => rfl⟩
    rw [m_Mod_fair_60_eq, if_neg (show ¬ (r : Int) < r by omega), ef, grd_pos (by omega), show ((2 ^ m - 1 : Nat) : Int).toNat = 2 ^ m - 1 from rfl]
  | succ j ih =>
    intro r N w4 w5 hj r1 h3 hl
    rw [m_Mod_fair_60_eq, if_pos (show (r : Int) < k by omega), ef]
    obtain ⟨N1, u5, g1, g2, g3⟩ := Mod_fair72 (k := (k : Int)) hm hw r1 (2 ^ m - 1) N w5 (by omega) h3 (fun X hX => hl X (by omega)) (fun X h1 h2 => by omega)
    rw [g1, ia_eq (by omega) (by omega)]
    obtain ⟨N', V, q1, q2, q3⟩ := ih (r + 1) N1 (pzI 0) u5 (by omega) (by omega) (fun T hT => by rw [g3 126 T (by decide)]; exact h3 T hT) g2
    exact ⟨N', V, q1, q2, fun c i z => by rw [q3 c i z, g3 c i z]⟩
theorem Mod_fair33 {w : Nat → Int} {m k : Nat} (hm : m ≤ 10) (hk : k ≤ 4) (k1 : 1 ≤ k) (hw : ∀ i, i < m → 0 ≤ w i) : ∀ (j x : Nat) (N : pz_M) (w4 w5 : pz_V), x + j = 2 ^ m → (∀ T, T < 2 ^ m → N 126 T = sS w m T) → (∀ X, X < x → N 127 X = sS w m X) → ∃ (N' : pz_M) (V : Int), m_Mod_fair_33 k m x w4 w5 N = some (some (pzI V), N') ∧ lst w m k (2 ^ m - 1) V ∧ fr7 N N' := by
  have h1024 : 2 ^ m ≤ 1024 := show 2 ^ m ≤ 2 ^ 10 from Nat.pow_le_pow_right (by omega) hm
  intro j
  induction j with
  | zero =>
    intro x N w4 w5 hj h3 hx
    rw [m_Mod_fair_33_eq, ihl_1 (by omega), if_neg (show ¬ (x : Int) < ((2 ^ m : Nat) : Int) by omega)]
    exact Mod_fair60 hm hk hw (k - 1) 1 N w4 w5 (by omega) (by omega) h3 (fun X hX => by rw [hx X (by omega)]; exact lst_1 hw X)
  | succ j ih =>
    intro x N w4 w5 hj h3 hx
    rw [m_Mod_fair_33_eq, ihl_1 (by omega), if_pos (show (x : Int) < ((2 ^ m : Nat) : Int) by omega), grd_pos (by omega), grd_pos (by omega), bM_eq, show ((x : Nat) : Int).toNat = x from rfl, h3 x (by omega), ia_eq (by omega) (by omega)]
    obtain ⟨N', V, q1, q2, q3⟩ := ih (x + 1) (pz_wr N 127 x (sS w m x)) w4 w5 (by omega) (fun T hT => by rw [wr_cell (by decide)]; exact h3 T hT) (fun X hX => by
      rw [wr_at]
      by_cases e : X = x
      · rw [if_pos e, e]
      · rw [if_neg e]; exact hx X (by omega))
    exact ⟨N', V, q1, q2, fun c i z => by rw [q3 c i z, wr_cell z]⟩
