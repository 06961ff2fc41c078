/-! fair: the reference's way, over sets -/
theorem b_nI (n : Nat) {i : Nat} (hi : i < 32) : bt (nI n) i = n.testBit i := by
  show (BitVec.ofNat 32 n).getLsbD i = n.testBit i
  rw [BitVec.getLsbD_ofNat, decide_eq_true hi, Bool.true_and]
theorem dif_nat {a b : Nat} (ha : a < 2 ^ 31) (hb' : b < 2 ^ 31) (hb : ∀ i, b.testBit i = true → a.testBit i = true) : ian (a : Int) (ixo (b : Int) (-1)) = ((a ^^^ b : Nat) : Int) := by
  have e : nI a &&& (nI b ^^^ -1) = nI (a ^^^ b) := by
    apply b_ext
    intro i hi
    rw [b_and, b_xor, b_m1 i hi, b_nI _ hi, b_nI _ hi, b_nI _ hi, Nat.testBit_xor]
    have := hb i
    cases h1 : a.testBit i <;> cases h2 : b.testBit i <;> simp_all
  unfold ian ixo f_and f_xor
  rw [pzJ_toInt, pzJ_nat, pzJ_nat, show pzJ (-1) = -1 from rfl, e, nI_toInt (Nat.xor_lt_two_pow (n := 31) ha hb')]
/-- T lies within S -/
def sub2 (T S : Nat) : Prop := T &&& S = T
theorem sub2_bit {T S : Nat} (h : sub2 T S) (i : Nat) (hi : T.testBit i = true) : S.testBit i = true := by
  unfold sub2 at h
  rw [← h, Nat.testBit_and, Bool.and_eq_true] at hi
  exact hi.2
theorem sub2_of {T S : Nat} (h : ∀ i, T.testBit i = true → S.testBit i = true) : sub2 T S := by
  apply Nat.eq_of_testBit_eq
  intro i
  rw [Nat.testBit_and]
  have := h i
  cases h1 : T.testBit i <;> cases h2 : S.testBit i <;> simp_all
theorem and_le (a b : Nat) : a &&& b ≤ a := Nat.and_le_left
theorem and_h (a b : Nat) : (a &&& b) / 2 = (a / 2) &&& (b / 2) := Nat.and_div_two_pow (n := 1)
theorem and_m (a b : Nat) : (a &&& b) % 2 = (a % 2) &&& (b % 2) := Nat.and_mod_two_pow (n := 1)
theorem next_sub : ∀ (n S X T : Nat), S ≤ n → sub2 X S → sub2 T S → T < X → T ≤ (X - 1) &&& S := by
  intro n
  induction n using Nat.strongRecOn with
  | ind n ih =>
    intro S X T hS hX hT hlt
    have hX1 := and_h X S
    have hX2 := and_m X S
    have hT1 := and_h T S
    have hT2 := and_m T S
    unfold sub2 at hX hT
    rw [hX] at hX1 hX2
    rw [hT] at hT1 hT2
    have hXS : X ≤ S := by rw [← hX]; exact Nat.and_le_right
    have g1 := and_h (X - 1) S
    have g2 := and_m (X - 1) S
    generalize (X - 1) &&& S = R at g1 g2 ⊢
    by_cases hx : X % 2 = 1
    · have e1 : (X - 1) / 2 = X / 2 := by omega
      rw [e1, ← hX1] at g1
      have hh : T / 2 ≤ X / 2 := by omega
      by_cases q : T % 2 = 1
      · omega
      · omega
    · have e1 : (X - 1) / 2 = X / 2 - 1 := by omega
      have e2 : (X - 1) % 2 = 1 := by omega
      rw [e1] at g1
      rw [e2] at g2
      have i1 := ih (S / 2) (by omega) (S / 2) (X / 2) (T / 2) (Nat.le_refl _) hX1.symm hT1.symm (by omega)
      rw [← g1] at i1
      have : T % 2 ≤ R % 2 := by
        rw [g2, hT2]
        rcases Nat.mod_two_eq_zero_or_one T with a | a <;> rcases Nat.mod_two_eq_zero_or_one S with b | b <;> rw [a, b] <;> decide
      omega
def wS (w : Nat → Int) (S i : Nat) : Int := if S.testBit i then w i else 0
theorem ld_ext {w w' : Nat → Int} {c c' : Nat → Nat} {h h' : Nat} : ∀ (j i : Nat), (∀ x, i ≤ x → x < i + j → (if c x = h then w x else 0) = (if c' x = h' then w' x else 0)) → ld w c h i j = ld w' c' h' i j := by
  intro j
  induction j with
  | zero => intro i _; rfl
  | succ j ih =>
    intro i hh
    show (if c i = h then w i else 0) + ld w c h (i + 1) j = (if c' i = h' then w' i else 0) + ld w' c' h' (i + 1) j
    rw [ih (i + 1) (fun x h1 h2 => hh x (by omega) (by omega)), hh i (by omega) (by omega)]
theorem ld_0 {w : Nat → Int} {c : Nat → Nat} {h : Nat} (hc : ∀ x, c x = h → w x = 0) : ∀ (j i : Nat), ld w c h i j = 0 := by
  intro j
  induction j with
  | zero => intro i; rfl
  | succ j ih =>
    intro i
    show (if c i = h then w i else 0) + ld w c h (i + 1) j = 0
    rw [ih (i + 1)]
    split
    · rename_i q; rw [hc i q]; rfl
    · rfl
/-- the sum of a set -/
def sS (w : Nat → Int) (m S : Nat) : Int := ld (wS w S) (fun _ => 0) 0 0 m
/-- V is the least that r hands can come to with the set S -/
def lst (w : Nat → Int) (m r S : Nat) (V : Int) : Prop := 0 ≤ V ∧ (∃ c : Nat → Nat, (∀ i, c i < r) ∧ ∀ h, h < r → ld (wS w S) c h 0 m ≤ V) ∧ ∀ (v : Int) (c : Nat → Nat), 0 ≤ v → (∀ i, c i < r) → (∀ h, h < r → ld (wS w S) c h 0 m ≤ v) → V ≤ v
theorem wS_nn {w : Nat → Int} {m : Nat} (hw : ∀ i, i < m → 0 ≤ w i) (S : Nat) : ∀ i, i < m → 0 ≤ wS w S i := by
  intro i hi
  unfold wS
  have := hw i hi
  split <;> omega
theorem sS_nn {w : Nat → Int} {m : Nat} (hw : ∀ i, i < m → 0 ≤ w i) (S : Nat) : 0 ≤ sS w m S := ld_nn m 0 (fun x _ h2 => wS_nn hw S x (by omega))
theorem lst_1 {w : Nat → Int} {m : Nat} (hw : ∀ i, i < m → 0 ≤ w i) (S : Nat) : lst w m 1 S (sS w m S) := by
  refine ⟨sS_nn hw S, ⟨fun _ => 0, fun _ => (show (0 : Nat) < 1 by omega), fun h hh => ?_⟩, fun v c v0 hc hv => ?_⟩
  · have : h = 0 := by omega
    subst this
    exact Int.le_refl _
  · have := hv 0 (by omega)
    rw [ld_congr (d := fun _ => 0) m 0 (fun x _ _ => by have := hc x; omega)] at this
    exact this
theorem lst_0 {w : Nat → Int} {m r : Nat} {V : Int} (h : lst w m r 0 V) (hr : 1 ≤ r) : lst w m (r + 1) 0 V := by
  have z : ∀ (c : Nat → Nat) (h : Nat), ld (wS w 0) c h 0 m = 0 := fun c h => ld_0 (fun x _ => by unfold wS; rw [if_neg (by rw [Nat.zero_testBit]; exact Bool.false_ne_true)]) m 0
  have hV : V ≤ 0 := h.2.2 0 (fun _ => 0) (by omega) (fun _ => (show 0 < r by omega)) (fun h _ => by rw [z]; omega)
  exact ⟨h.1, ⟨fun _ => 0, fun _ => (show 0 < r + 1 by omega), fun h' _ => by rw [z]; exact h.1⟩, fun v c v0 _ _ => by omega⟩
/-- one more hand that may stay empty -/
theorem lst_up {w : Nat → Int} {m r S : Nat} {V : Int} (h : lst w m r S V) : ∃ c : Nat → Nat, (∀ i, c i < r + 1) ∧ ∀ h, h < r + 1 → ld (wS w S) c h 0 m ≤ V := by
  obtain ⟨h0, ⟨c, hc, hv⟩, _⟩ := h
  refine ⟨c, fun i => by have := hc i; omega, fun h hh => ?_⟩
  by_cases e : h = r
  · rw [ld_0 (fun x q => by have := hc x; omega) m 0]; exact h0
  · exact hv h (by omega)
/-- one more hand that takes T -/
theorem lst_hand {w : Nat → Int} {m r S T : Nat} {V v : Int} (hT : sub2 T S) (h : lst w m r (S ^^^ T) V) (h1 : V ≤ v) (h2 : sS w m T ≤ v) : ∃ c : Nat → Nat, (∀ i, c i < r + 1) ∧ ∀ h, h < r + 1 → ld (wS w S) c h 0 m ≤ v := by
  obtain ⟨h0, ⟨c, hc, hv⟩, _⟩ := h
  refine ⟨fun i => if T.testBit i then r else c i, fun i => ?_, fun h hh => ?_⟩
  · show (if T.testBit i then r else c i) < r + 1
    have := hc i
    split <;> omega
  · by_cases e : h = r
    · have : ld (wS w S) (fun i => if T.testBit i then r else c i) h 0 m = sS w m T := by
        apply ld_ext
        intro x _ _
        rw [if_pos rfl]
        unfold wS
        cases q : T.testBit x with
        | true => rw [if_pos (show (if true = true then r else c x) = h by rw [if_pos rfl, e]), sub2_bit hT x q]
        | false =>
          have := hc x
          rw [if_neg (show ¬ (if false = true then r else c x) = h by rw [if_neg Bool.false_ne_true]; omega), if_neg Bool.false_ne_true]
      rw [this]; exact h2
    · have : ld (wS w S) (fun i => if T.testBit i then r else c i) h 0 m = ld (wS w (S ^^^ T)) c h 0 m := by
        apply ld_ext
        intro x _ _
        unfold wS
        rw [Nat.testBit_xor]
        cases q : T.testBit x with
        | true =>
          rw [if_neg (show ¬ (if true = true then r else c x) = h by rw [if_pos rfl]; omega), sub2_bit hT x q]
          split <;> rfl
        | false => rw [if_neg Bool.false_ne_true, Bool.xor_false]
      rw [this]
      have := hv h (by omega)
      omega
/-- what is not more than every choice of the last hand's set is the least -/
theorem lst_all {w : Nat → Int} {m r S : Nat} {V : Int} {F : Nat → Int} (hr : 1 ≤ r) (hSm : S < 2 ^ m) (hF : ∀ X, X ≤ S → lst w m r X (F X)) (h0 : V ≤ F S) (h1 : ∀ T, 0 < T → sub2 T S → V ≤ sS w m T ∨ V ≤ F (S ^^^ T)) (v : Int) (c : Nat → Nat) (v0 : 0 ≤ v) (hc : ∀ i, c i < r + 1) (hv : ∀ h, h < r + 1 → ld (wS w S) c h 0 m ≤ v) : V ≤ v := by
  have hTb := mskN_bit (fun i => S.testBit i && decide (c i = r)) m
  generalize mskN (fun i => S.testBit i && decide (c i = r)) m = T at hTb
  have hSb : ∀ i, S.testBit i = true → i < m := by
    intro i hi
    by_cases q : i < m
    · exact q
    · rw [Nat.testBit_lt_two_pow (Nat.lt_of_lt_of_le hSm (Nat.pow_le_pow_right (by omega) (by omega)))] at hi
      exact Bool.noConfusion hi
  have hT : ∀ i, T.testBit i = (S.testBit i && decide (c i = r)) := by
    intro i
    rw [hTb]
    cases q : S.testBit i with
    | true => rw [decide_eq_true (hSb i q), Bool.true_and]
    | false => rw [Bool.false_and, Bool.and_false]
  have hsub : sub2 T S := sub2_of (fun i hi => by rw [hT, Bool.and_eq_true] at hi; exact hi.1)
  have hX : (S ^^^ T) ≤ S := by
    have e : (S ^^^ T) &&& S = S ^^^ T := sub2_of (fun i hi => by
      rw [Nat.testBit_xor, hT] at hi
      cases q : S.testBit i <;> simp_all)
    rw [← e]; exact Nat.and_le_right
  have rest : F (S ^^^ T) ≤ v := by
    refine (hF (S ^^^ T) hX).2.2 v (fun i => if c i = r then 0 else c i) v0 (fun i => ?_) (fun h hh => ?_)
    · show (if c i = r then 0 else c i) < r
      have := hc i
      split <;> omega
    · have e : ld (wS w (S ^^^ T)) (fun i => if c i = r then 0 else c i) h 0 m = ld (wS w S) c h 0 m := by
        apply ld_ext
        intro x _ _
        unfold wS
        rw [Nat.testBit_xor, hT]
        by_cases q : c x = r
        · rw [decide_eq_true q, Bool.and_true, Bool.xor_self, if_neg Bool.false_ne_true, ite_self, if_neg (show ¬ c x = h by omega)]
        · rw [decide_eq_false q, Bool.and_false, Bool.xor_false, if_neg q]
      rw [e]; exact hv h (by omega)
  by_cases hz : T = 0
  · rw [hz, Nat.xor_zero] at rest
    omega
  · rcases h1 T (by omega) hsub with q | q
    · have : ld (wS w S) c r 0 m = sS w m T := by
        apply ld_ext
        intro x _ _
        rw [if_pos rfl]
        unfold wS
        rw [hT]
        by_cases q : c x = r
        · rw [if_pos q, decide_eq_true q, Bool.and_true]
        · rw [if_neg q, decide_eq_false q, Bool.and_false, if_neg Bool.false_ne_true]
      have := hv r (by omega)
      omega
    · omega
