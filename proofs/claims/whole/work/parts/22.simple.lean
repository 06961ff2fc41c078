/-! ===== small methods in closed form ===== -/
theorem Mod_in (x y z : Int) (N : pz_M) : m_Mod_in x y z N = some (some (pzI (b01 (y ≤ x ∧ x ≤ z))), N) := by
  rw [m_Mod_in_eq]; unfold b01; (repeat' split) <;> first | rfl | omega
theorem Mod_min (x y : Int) (N : pz_M) : m_Mod_min x y N = some (some (pzI (min x y)), N) := by
  rw [m_Mod_min_eq]; split
  · rw [show min x y = x by omega]
  · rw [show min x y = y by omega]
theorem Mod_max (x y : Int) (N : pz_M) : m_Mod_max x y N = some (some (pzI (max x y)), N) := by
  rw [m_Mod_max_eq]; split
  · rw [show max x y = x by omega]
  · rw [show max x y = y by omega]
theorem Math_min (x y : Int) (N : pz_M) : m_Math_min x y N = some (some (pzI (min x y)), N) := by
  rw [m_Math_min_eq]; split
  · rw [show min x y = y by omega]
  · rw [show min x y = x by omega]
theorem Math_max (x y : Int) (N : pz_M) : m_Math_max x y N = some (some (pzI (max x y)), N) := by
  rw [m_Math_max_eq]; split
  · rw [show max x y = y by omega]
  · rw [show max x y = x by omega]
theorem Desk_isPeacock (x : Int) (M : pz_M) : m_Desk_isPeacock x M = some (some (pzI (b01 (0 ≤ x ∧ x ≤ 8))), M) := by
  rw [m_Desk_isPeacock_eq]; unfold b01; (repeat' split) <;> first | rfl | omega
theorem Desk_areDays (x : Int) (M : pz_M) : m_Desk_areDays x M = some (some (pzI (b01 (1 ≤ x ∧ x ≤ 100))), M) := by
  rw [m_Desk_areDays_eq]; unfold b01; (repeat' split) <;> first | rfl | omega
theorem Desk_isCase {M : pz_M} {n : Nat} (h : M 49 4 = n) (x : Int) : m_Desk_isCase x M = some (some (pzI (b01 (0 ≤ x ∧ x < n))), M) := by
  rw [m_Desk_isCase_eq, h]; unfold b01; (repeat' split) <;> first | rfl | omega
theorem Mod_isCase {N : pz_M} {n : Nat} (h : N 100 6 = n) (hn : n ≤ 24) (x : Int) : m_Mod_isCase x N = some (some (pzI (b01 (0 ≤ x ∧ x < n))), N) := by
  rw [m_Mod_isCase_eq, h, isb_eq (by omega) (by omega), Mod_in, bI_some, b01_grd, b01_congr (Q := 0 ≤ x ∧ x < (n : Int)) (by omega)]
theorem Mod_isLeft {N : pz_M} {n : Nat} (h : N 100 6 = n) (hn : n ≤ 24) (x : Int) : m_Mod_isLeft x N = some (some (pzI (b01 (0 ≤ x ∧ x < n ∧ N 101 x.toNat ≠ 2))), N) := by
  rw [m_Mod_isLeft_eq, Mod_isCase h hn, bI_some, b01_ite]
  by_cases h1 : 0 ≤ x ∧ x < (n : Int)
  · rw [if_pos h1, ia_eq (by omega) (by omega), Int.zero_add, grd_pos (by omega)]
    unfold b01
    by_cases h2 : N 101 x.toNat = 2
    · rw [if_pos h2, if_neg (fun z => z.2.2 h2)]
    · rw [if_neg h2, if_pos ⟨h1.1, h1.2, h2⟩]
  · rw [if_neg h1, b01_f (fun z => h1 ⟨z.1, z.2.1⟩)]
theorem Mod_hasIt {N : pz_M} {n : Nat} (h : N 100 6 = n) (hn : n ≤ 24) (p x : Int) : m_Mod_hasIt p x N = some (some (pzI (b01 (0 ≤ x ∧ x < n ∧ N 101 x.toNat = 1 ∧ N 101 (24 + x.toNat) = p))), N) := by
  rw [m_Mod_hasIt_eq, Mod_isCase h hn, bI_some, b01_ite]
  by_cases h1 : 0 ≤ x ∧ x < (n : Int)
  · rw [if_pos h1, ia_eq (by omega) (by omega), Int.zero_add, grd_pos (by omega), ia_eq (by omega) (by omega), show (24 + x).toNat = 24 + x.toNat by omega]
    unfold b01
    by_cases h2 : N 101 x.toNat = 1
    · rw [if_pos h2, grd_pos (by omega)]
      by_cases h3 : N 101 (24 + x.toNat) = p
      · rw [if_pos h3, if_pos ⟨h1.1, h1.2, h2, h3⟩]
      · rw [if_neg h3, if_neg (fun z => h3 z.2.2.2)]
    · rw [if_neg h2, if_neg (fun z => h2 z.2.2.1)]
  · rw [if_neg h1, b01_f (fun z => h1 ⟨z.1, z.2.1⟩)]
/-! sets as numbers -/
def mskN (P : Nat → Bool) : Nat → Nat
  | 0 => 0
  | n + 1 => mskN P n + if P n then 2 ^ n else 0
theorem mskN_lt (P : Nat → Bool) : ∀ n, mskN P n < 2 ^ n := by
  intro n
  induction n with
  | zero => exact Nat.one_pos
  | succ n ih =>
    have e : 2 ^ (n + 1) = 2 ^ n + 2 ^ n := by rw [Nat.pow_succ]; omega
    unfold mskN
    split <;> omega
theorem mskN_or (P : Nat → Bool) (n : Nat) : mskN P n ||| 2 ^ n = mskN P n + 2 ^ n := by
  have := Nat.two_pow_add_eq_or_of_lt (mskN_lt P n) 1
  rw [Nat.mul_one] at this
  rw [Nat.or_comm, ← this, Nat.add_comm]
theorem mskN_bit (P : Nat → Bool) : ∀ n i, (mskN P n).testBit i = (decide (i < n) && P i) := by
  intro n
  induction n with
  | zero => intro i; simp [mskN]
  | succ n ih =>
    intro i
    unfold mskN
    by_cases hp : P n
    · rw [if_pos hp, ← mskN_or, Nat.testBit_or, ih, Nat.testBit_two_pow]
      by_cases hi : i = n
      · subst hi; simp [hp]
      · have e : decide (i < n + 1) = decide (i < n) := decide_eq_decide.mpr (by omega)
        rw [e, decide_eq_false (p := n = i) (fun z => hi z.symm), Bool.or_false]
    · rw [if_neg hp, Nat.add_zero, ih]
      by_cases hi : i = n
      · subst hi; simp [hp]
      · have e : decide (i < n + 1) = decide (i < n) := decide_eq_decide.mpr (by omega)
        rw [e]
theorem mskN_congr {P Q : Nat → Bool} : ∀ n, (∀ c, c < n → P c = Q c) → mskN P n = mskN Q n := by
  intro n
  induction n with
  | zero => intro _; rfl
  | succ n ih => intro h; unfold mskN; rw [ih (fun c hc => h c (by omega)), h n (by omega)]
theorem mskN_31 (P : Nat → Bool) {n : Nat} (hn : n ≤ 30) : mskN P n < 2147483648 := Nat.lt_of_lt_of_le (mskN_lt P n) (show 2 ^ n ≤ 2 ^ 31 from Nat.pow_le_pow_right (by omega) (by omega))
theorem pow_31 {n : Nat} (hn : n ≤ 30) : 2 ^ n < 2147483648 := Nat.pow_lt_pow_right (a := 2) (m := n) (n := 31) (by omega) (by omega)
/-- one more in a set -/
theorem msk_step (P : Nat → Bool) {x : Int} (h0 : 0 ≤ x) (h1 : x ≤ 30) (hp : P x.toNat = true) : iro ((mskN P x.toNat : Nat) : Int) (ihl 1 x) = ((mskN P (x + 1).toNat : Nat) : Int) := by
  have e : x = ((x.toNat : Nat) : Int) := by omega
  rw [show ihl 1 x = ihl 1 ((x.toNat : Nat) : Int) by rw [← e], ihl_1 (by omega), iro_nat (mskN_31 P (by omega)) (pow_31 (by omega)), mskN_or, show (x + 1).toNat = x.toNat + 1 by omega]
  show _ = ((mskN P x.toNat + (if P x.toNat then 2 ^ x.toNat else 0) : Nat) : Int)
  rw [if_pos hp]
theorem msk_skip (P : Nat → Bool) {x : Int} (h0 : 0 ≤ x) (hp : P x.toNat = false) : mskN P (x + 1).toNat = mskN P x.toNat := by
  rw [show (x + 1).toNat = x.toNat + 1 by omega]
  show mskN P x.toNat + _ = _
  rw [hp]
  rfl
theorem Mod_casesOf_L {N : pz_M} {n : Nat} (h : N 100 6 = n) (hn : n ≤ 24) (p : Int) : ∀ (j : Nat) (x : Int), 0 ≤ x → x + j = n → m_Mod_casesOf_4 p ((mskN (fun c => decide (N 101 c = 1 ∧ N 101 (24 + c) = p)) x.toNat : Nat) : Int) x N = some (some (pzI ((mskN (fun c => decide (N 101 c = 1 ∧ N 101 (24 + c) = p)) n : Nat) : Int)), N) := by
  intro j
  induction j with
  | zero =>
    intro x h0 hj
    rw [m_Mod_casesOf_4_eq, if_neg (by omega), show x.toNat = n by omega]
  | succ j ih =>
    intro x h0 hj
    rw [m_Mod_casesOf_4_eq, if_pos (by omega), Mod_hasIt h hn, bI_some, b01_ite, ia_eq (by omega) (by omega)]
    by_cases hp : N 101 x.toNat = 1 ∧ N 101 (24 + x.toNat) = p
    · rw [if_pos ⟨h0, by omega, hp⟩, msk_step _ h0 (by omega) (decide_eq_true hp)]
      exact ih (x + 1) (by omega) (by omega)
    · rw [if_neg (fun z => hp z.2.2), ← msk_skip _ h0 (decide_eq_false hp)]
      exact ih (x + 1) (by omega) (by omega)
theorem Mod_casesOf {N : pz_M} {n : Nat} (h : N 100 6 = n) (hn : n ≤ 24) (p : Int) : m_Mod_casesOf p N = some (some (pzI ((mskN (fun c => decide (N 101 c = 1 ∧ N 101 (24 + c) = p)) n : Nat) : Int)), N) := by
  rw [m_Mod_casesOf_eq]
  exact Mod_casesOf_L h hn p n 0 (by omega) (by omega)
theorem Mod_inState_L {N : pz_M} {n : Nat} (h : N 100 6 = n) (hn : n ≤ 24) (s : Int) : ∀ (j : Nat) (x : Int), 0 ≤ x → x + j = n → m_Mod_inState_4 s ((mskN (fun c => decide (N 101 c = s)) x.toNat : Nat) : Int) x N = some (some (pzI ((mskN (fun c => decide (N 101 c = s)) n : Nat) : Int)), N) := by
  intro j
  induction j with
  | zero =>
    intro x h0 hj
    rw [m_Mod_inState_4_eq, if_neg (by omega), show x.toNat = n by omega]
  | succ j ih =>
    intro x h0 hj
    rw [m_Mod_inState_4_eq, if_pos (by omega), ia_eq (x := 0) (by omega) (by omega), Int.zero_add, grd_pos (by omega), ia_eq (by omega) (by omega)]
    by_cases hp : N 101 x.toNat = s
    · rw [if_pos hp, msk_step _ h0 (by omega) (decide_eq_true hp)]
      exact ih (x + 1) (by omega) (by omega)
    · rw [if_neg hp, ← msk_skip _ h0 (decide_eq_false hp)]
      exact ih (x + 1) (by omega) (by omega)
theorem Mod_inState {N : pz_M} {n : Nat} (h : N 100 6 = n) (hn : n ≤ 24) (s : Int) : m_Mod_inState s N = some (some (pzI ((mskN (fun c => decide (N 101 c = s)) n : Nat) : Int)), N) := by
  rw [m_Mod_inState_eq]
  exact Mod_inState_L h hn s n 0 (by omega) (by omega)
theorem Ter_bitsAt_L {M : pz_M} {k n : Nat} (hk : pz_cls k = 9) (h : M k 4 = n) (hn : n ≤ 24) (s : Int) : ∀ (j : Nat) (x : Int), 0 ≤ x → x + j = n → m_Terrace_bitsAt_4 k s ((mskN (fun c => decide (M (k + 1) c = s)) x.toNat : Nat) : Int) x M = some (some (pzI ((mskN (fun c => decide (M (k + 1) c = s)) n : Nat) : Int)), M) := by
  intro j
  induction j with
  | zero =>
    intro x h0 hj
    rw [m_Terrace_bitsAt_4_eq _ _ _ _ _ hk, if_neg (by omega), show x.toNat = n by omega]
  | succ j ih =>
    intro x h0 hj
    rw [m_Terrace_bitsAt_4_eq _ _ _ _ _ hk, if_pos (by omega), grd_pos (by omega), ia_eq (by omega) (by omega)]
    by_cases hp : M (k + 1) x.toNat = s
    · rw [if_pos hp, msk_step _ h0 (by omega) (decide_eq_true hp)]
      exact ih (x + 1) (by omega) (by omega)
    · rw [if_neg hp, ← msk_skip _ h0 (decide_eq_false hp)]
      exact ih (x + 1) (by omega) (by omega)
theorem Ter_bitsAt {M : pz_M} {k n : Nat} (hk : pz_cls k = 9) (h : M k 4 = n) (hn : n ≤ 24) (s : Int) : m_Terrace_bitsAt k s M = some (some (pzI ((mskN (fun c => decide (M (k + 1) c = s)) n : Nat) : Int)), M) := by
  rw [m_Terrace_bitsAt_eq _ _ _ hk]
  exact Ter_bitsAt_L hk h hn s n 0 (by omega) (by omega)
/-- how many of a set -/
def popN (m : Nat) : Nat → Int
  | 0 => 0
  | k + 1 => popN m k + if m.testBit k then 1 else 0
theorem popN_le (m : Nat) : ∀ k, 0 ≤ popN m k ∧ popN m k ≤ k := by
  intro k
  induction k with
  | zero => exact ⟨Int.le_refl _, Int.le_refl _⟩
  | succ k ih => unfold popN; split <;> omega
theorem Mod_bits_L {m : Nat} (hm : m < 2147483648) (N : pz_M) : ∀ (j : Nat) (x : Int), 0 ≤ x → x + j = 24 → m_Mod_bits_4 (m : Int) (popN m x.toNat) x N = some (some (pzI (popN m 24)), N) := by
  intro j
  induction j with
  | zero =>
    intro x h0 hj
    rw [m_Mod_bits_4_eq, if_neg (by omega), show x.toNat = 24 by omega]
  | succ j ih =>
    intro x h0 hj
    have e : x = ((x.toNat : Nat) : Int) := by omega
    have hb := popN_le m x.toNat
    rw [m_Mod_bits_4_eq, if_pos (by omega), ia_eq (x := x) (by omega) (by omega)]
    have e2 : ian (ihr (m : Int) x) 1 = if m.testBit x.toNat then 1 else 0 := by
      rw [show ihr (m : Int) x = ihr (m : Int) ((x.toNat : Nat) : Int) by rw [← e]]
      exact bit_nat hm (by omega)
    have e3 : ia (popN m x.toNat) (ian (ihr (m : Int) x) 1) = popN m (x + 1).toNat := by
      rw [e2, show (x + 1).toNat = x.toNat + 1 by omega]
      show _ = popN m x.toNat + _
      split
      · exact ia_eq (by omega) (by omega)
      · exact ia_eq (by omega) (by omega)
    rw [e3]
    exact ih (x + 1) (by omega) (by omega)
theorem Mod_bits {m : Nat} (hm : m < 2147483648) (N : pz_M) : m_Mod_bits (m : Int) N = some (some (pzI (popN m 24)), N) := by
  rw [m_Mod_bits_eq]
  exact Mod_bits_L hm N 24 0 (by omega) (by omega)
/-- so many of the first n hold -/
def cntB (P : Nat → Bool) : Nat → Int
  | 0 => 0
  | n + 1 => cntB P n + if P n then 1 else 0
theorem cntB_congr {P Q : Nat → Bool} : ∀ n, (∀ c, c < n → P c = Q c) → cntB P n = cntB Q n := by
  intro n
  induction n with
  | zero => intro _; rfl
  | succ n ih => intro h; unfold cntB; rw [ih (fun c hc => h c (by omega)), h n (by omega)]
theorem cntB_le (P : Nat → Bool) : ∀ n, 0 ≤ cntB P n ∧ cntB P n ≤ n := by
  intro n
  induction n with
  | zero => exact ⟨Int.le_refl _, Int.le_refl _⟩
  | succ n ih => unfold cntB; split <;> omega
theorem cntB_cut (P : Nat → Bool) (n : Nat) : ∀ k, n ≤ k → cntB (fun i => decide (i < n) && P i) k = cntB P n := by
  intro k hk
  induction hk with
  | refl => exact cntB_congr n (fun c hc => by simp [hc])
  | step h ih =>
    rename_i m
    show cntB _ m + _ = _
    have : decide (m < n) = false := decide_eq_false (by have : n ≤ m := h; omega)
    rw [ih]
    simp [this]
theorem popN_cnt (m : Nat) : ∀ k, popN m k = cntB (fun i => m.testBit i) k := by
  intro k
  induction k with
  | zero => rfl
  | succ k ih => unfold popN cntB; rw [ih]
theorem popN_msk (P : Nat → Bool) {n : Nat} (hn : n ≤ 24) : popN (mskN P n) 24 = cntB P n := by
  rw [popN_cnt, cntB_congr (Q := fun i => decide (i < n) && P i) 24 (fun c _ => mskN_bit P n c)]
  exact cntB_cut P n 24 hn
theorem cntI_cntB (f : Nat → Int) (q : Int) : ∀ n, cntI f q n = cntB (fun c => decide (f c = q)) n := by
  intro n
  induction n with
  | zero => rfl
  | succ n ih =>
    unfold cntI cntB
    rw [ih]
    by_cases h : f n = q <;> simp [h]
theorem Mod_bitsOf {N : pz_M} {n : Nat} (h : N 100 6 = n) (hn : n ≤ 24) (p : Int) : (bI (m_Mod_casesOf p N) fun r M1 => m_Mod_bits r M1) = some (some (pzI (cntB (fun c => decide (N 101 c = 1 ∧ N 101 (24 + c) = p)) n)), N) := by
  rw [Mod_casesOf h hn, bI_some, Mod_bits (mskN_31 _ (by omega)), popN_msk _ hn]
