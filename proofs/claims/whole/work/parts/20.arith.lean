/-! ===== the machine's numbers as whole numbers ===== -/
theorem jt {x : Int} (h1 : -2147483648 ≤ x) (h2 : x ≤ 2147483647) : (pzJ x).toInt = x := Int32.toInt_ofInt_of_le h1 (by omega)
theorem in_iff {x : Int} : pz_in x ↔ -2147483648 ≤ x ∧ x ≤ 2147483647 := by
  constructor
  · intro h
    have h1 := Int32.le_toInt (pzJ x)
    have h2 := Int32.toInt_lt (pzJ x)
    rw [h] at h1 h2
    constructor <;> omega
  · rintro ⟨h1, h2⟩
    exact jt h1 h2
theorem ia_eq {x y : Int} (h1 : -2147483648 ≤ x + y) (h2 : x + y ≤ 2147483647) : ia x y = x + y := by
  unfold ia f_add pzJ
  rw [← Int32.ofInt_add]
  exact jt h1 h2
theorem isb_eq {x y : Int} (h1 : -2147483648 ≤ x - y) (h2 : x - y ≤ 2147483647) : isb x y = x - y := by
  unfold isb f_sub pzJ
  rw [← Int32.ofInt_sub]
  exact jt h1 h2
theorem imu_eq {x y : Int} (h1 : -2147483648 ≤ x * y) (h2 : x * y ≤ 2147483647) : imu x y = x * y := by
  unfold imu f_mul pzJ
  rw [← Int32.ofInt_mul]
  exact jt h1 h2
theorem ing_eq {x : Int} (h1 : -2147483648 ≤ -x) (h2 : -x ≤ 2147483647) : ing x = -x := by
  unfold ing f_neg pzJ
  rw [← Int32.ofInt_neg]
  exact jt h1 h2
theorem idv_nn {x y : Int} (h1 : 0 ≤ x) (h2 : x ≤ 2147483647) (h3 : 0 < y) (h4 : y ≤ 2147483647) : idv x y = x / y := by
  unfold idv f_div
  rw [Int32.toInt_div, jt (by omega) h2, jt (by omega) h4, Int.tdiv_eq_ediv_of_nonneg h1]
  have h5 : 0 ≤ x / y := Int.ediv_nonneg h1 (by omega)
  have h6 : x / y ≤ x := Int.ediv_le_self y h1
  rw [Int.bmod_eq_of_le] <;> omega
theorem irm_eq {x y : Int} (hx : pz_in x) (hy : pz_in y) (h : y ≠ 0) : irm x y = Int.tmod x y := by
  unfold irm f_rem
  have e : pzJ x - pzJ x / pzJ y * pzJ y = pzJ (Int.tmod x y) := by
    apply Int32.toInt_inj.mp
    rw [Int32.toInt_sub, Int32.toInt_mul, Int32.toInt_div, hx, hy]
    show _ = (Int32.ofInt _).toInt
    rw [Int32.toInt_ofInt]
    have e2 : Int.tmod x y = x - x.tdiv y * y := by
      have := Int.mul_tdiv_add_tmod x y
      rw [Int.mul_comm] at this
      omega
    rw [e2]
    simp only [Int.bmod_mul_bmod, Int.sub_bmod_bmod, Int.bmod_sub_bmod, Int.mul_bmod_bmod]
  rw [e]
  rw [in_iff] at hx hy
  have h1 := Int.natAbs_tmod x y
  have h3 : (Int.tmod x y).natAbs ≤ x.natAbs := by rw [h1]; exact Nat.mod_le _ _
  exact jt (by omega) (by
    have h4 : (Int.tmod x y).natAbs < y.natAbs := by rw [h1]; exact Nat.mod_lt _ (by omega)
    omega)
theorem irm_nn {x y : Int} (h1 : 0 ≤ x) (h2 : x ≤ 2147483647) (h3 : 0 < y) (h4 : y ≤ 2147483647) : irm x y = x % y := by
  rw [irm_eq (in_iff.mpr ⟨by omega, h2⟩) (in_iff.mpr ⟨by omega, h4⟩) (by omega), Int.tmod_eq_emod_of_nonneg h1]
theorem pzJ_nat (n : Nat) : pzJ (n : Int) = nI n := Int32.ofInt_eq_ofNat
theorem nI_and (a b : Nat) : nI a &&& nI b = nI (a &&& b) := by
  apply Int32.toBitVec_inj.mp
  show BitVec.ofNat 32 a &&& BitVec.ofNat 32 b = BitVec.ofNat 32 (a &&& b)
  apply BitVec.eq_of_getLsbD_eq
  intro i hi
  simp [BitVec.getLsbD_ofNat, hi, Nat.testBit_and]
theorem nI_or (a b : Nat) : nI a ||| nI b = nI (a ||| b) := by
  apply Int32.toBitVec_inj.mp
  show BitVec.ofNat 32 a ||| BitVec.ofNat 32 b = BitVec.ofNat 32 (a ||| b)
  apply BitVec.eq_of_getLsbD_eq
  intro i hi
  simp [BitVec.getLsbD_ofNat, hi, Nat.testBit_or]
theorem ian_nat {a b : Nat} (ha : a < 2147483648) : ian (a : Int) (b : Int) = ((a &&& b : Nat) : Int) := by
  unfold ian f_and
  rw [pzJ_nat, pzJ_nat, nI_and, nI_toInt (Nat.lt_of_le_of_lt Nat.and_le_left ha)]
theorem or_lt {a b : Nat} (ha : a < 2147483648) (hb : b < 2147483648) : a ||| b < 2147483648 := Nat.or_lt_two_pow (n := 31) ha hb
theorem iro_nat {a b : Nat} (ha : a < 2147483648) (hb : b < 2147483648) : iro (a : Int) (b : Int) = ((a ||| b : Nat) : Int) := by
  unfold iro f_or
  rw [pzJ_nat, pzJ_nat, nI_or, nI_toInt (or_lt ha hb)]
theorem shl_amt : ∀ n, n < 32 → ((nI n &&& 31).toBitVec.smod 32).toNat = n := by decide +kernel
theorem nI_shl (a n : Nat) (hn : n < 32) : nI a <<< (nI n &&& 31) = nI (a * 2 ^ n) := by
  apply Int32.toBitVec_inj.mp
  rw [Int32.toBitVec_shiftLeft, BitVec.shiftLeft_eq', shl_amt n hn]
  show BitVec.ofNat 32 a <<< n = BitVec.ofNat 32 (a * 2 ^ n)
  apply BitVec.eq_of_toNat_eq
  simp [BitVec.toNat_shiftLeft, Nat.shiftLeft_eq]
theorem nI_shr (a n : Nat) (ha : a < 2147483648) (hn : n < 32) : nI a >>> (nI n &&& 31) = nI (a / 2 ^ n) := by
  apply Int32.toBitVec_inj.mp
  rw [Int32.toBitVec_shiftRight, BitVec.sshiftRight_eq', shl_amt n hn]
  have hm : (nI a).toBitVec.msb = false := by
    show (BitVec.ofNat 32 a).msb = false
    rw [BitVec.msb_eq_false_iff_two_mul_lt]
    simp
    omega
  rw [BitVec.sshiftRight_eq_of_msb_false hm]
  apply BitVec.eq_of_toNat_eq
  show (BitVec.ofNat 32 a >>> n).toNat = (BitVec.ofNat 32 (a / 2 ^ n)).toNat
  have h1 : a / 2 ^ n ≤ a := Nat.div_le_self _ _
  simp [BitVec.toNat_ushiftRight, Nat.shiftRight_eq_div_pow]
  rw [Nat.mod_eq_of_lt (by omega : a < 4294967296), Nat.mod_eq_of_lt (by omega)]
theorem ihl_nat {a n : Nat} (hn : n < 32) (h : a * 2 ^ n < 2147483648) : ihl (a : Int) (n : Int) = ((a * 2 ^ n : Nat) : Int) := by
  unfold ihl f_shl
  rw [pzJ_nat, pzJ_nat, nI_shl a n hn, nI_toInt h]
theorem ihl_1 {n : Nat} (hn : n < 31) : ihl 1 (n : Int) = ((2 ^ n : Nat) : Int) := by
  have h := ihl_nat (a := 1) (n := n) (by omega) (by rw [Nat.one_mul]; exact Nat.pow_lt_pow_right (by omega) hn)
  rw [Nat.one_mul] at h
  exact h
theorem ihr_nat {a n : Nat} (ha : a < 2147483648) (hn : n < 32) : ihr (a : Int) (n : Int) = ((a / 2 ^ n : Nat) : Int) := by
  unfold ihr f_shr
  rw [pzJ_nat, pzJ_nat, nI_shr a n ha hn, nI_toInt (Nat.lt_of_le_of_lt (Nat.div_le_self _ _) ha)]
/-- the bit at a place -/
theorem bit_nat {a n : Nat} (ha : a < 2147483648) (hn : n < 32) : ian (ihr (a : Int) (n : Int)) 1 = if a.testBit n then 1 else 0 := by
  rw [ihr_nat ha hn]
  have := ian_nat (a := a / 2 ^ n) (b := 1) (Nat.lt_of_le_of_lt (Nat.div_le_self _ _) ha)
  rw [show ((1 : Nat) : Int) = 1 from rfl] at this
  rw [this, Nat.and_one_is_mod, Nat.testBit_eq_decide_div_mod_eq]
  have h2 : a / 2 ^ n % 2 = 0 ∨ a / 2 ^ n % 2 = 1 := by omega
  rcases h2 with h | h <;> simp [h]
/-! truth as 0 and 1 -/
def b01 (P : Prop) [Decidable P] : Int := if P then 1 else 0
theorem b01_t {P : Prop} [Decidable P] (h : P) : b01 P = 1 := if_pos h
theorem b01_f {P : Prop} [Decidable P] (h : ¬ P) : b01 P = 0 := if_neg h
theorem b01_0 {P : Prop} [Decidable P] : b01 P = 0 ↔ ¬ P := by unfold b01; split <;> simp_all
theorem b01_1 {P : Prop} [Decidable P] : b01 P = 1 ↔ P := by unfold b01; split <;> simp_all
theorem b01_or {P : Prop} [Decidable P] : b01 P = 0 ∨ b01 P = 1 := by unfold b01; split <;> simp
theorem b01_ite {P : Prop} [Decidable P] {α : Type} {a b : α} : (if b01 P = 0 then a else b) = if P then b else a := by unfold b01; split <;> simp_all
theorem b01_grd {P : Prop} [Decidable P] {z : Option pz_A} : grd (b01 P = 0 ∨ b01 P = 1) z = z := grd_pos b01_or
theorem b01_congr {P Q : Prop} [Decidable P] [Decidable Q] (h : P ↔ Q) : b01 P = b01 Q := by unfold b01; simp [h]
/-! loops that count up: the same step for i, i + 1, .. -/
def itr {α : Type} (f : α → Nat → α) : Nat → Nat → α → α
  | _, 0, a => a
  | i, j + 1, a => itr f (i + 1) j (f a i)
theorem itr_succ {α : Type} (f : α → Nat → α) : ∀ (j i : Nat) (a : α), itr f i (j + 1) a = f (itr f i j a) (i + j) := by
  intro j
  induction j with
  | zero => intro i a; rfl
  | succ j ih =>
    intro i a
    rw [itr, ih (i + 1) (f a i), itr, show i + 1 + j = i + (j + 1) by omega]
theorem itr_inv {α : Type} {f : α → Nat → α} {P : Nat → α → Prop} : ∀ (j i : Nat) (a : α), P i a → (∀ k b, i ≤ k → k < i + j → P k b → P (k + 1) (f b k)) → P (i + j) (itr f i j a) := by
  intro j
  induction j with
  | zero => intro i a h _; exact h
  | succ j ih =>
    intro i a h hs
    rw [show i + (j + 1) = i + 1 + j by omega, itr]
    exact ih (i + 1) (f a i) (hs i a (by omega) (by omega) h) (fun k b h1 h2 => hs k b (by omega) (by omega))
theorem itr_congr {α : Type} {f g : α → Nat → α} : ∀ (j i : Nat) (a : α), (∀ k b, i ≤ k → k < i + j → f b k = g b k) → itr f i j a = itr g i j a := by
  intro j
  induction j with
  | zero => intro i a _; rfl
  | succ j ih =>
    intro i a h
    rw [itr, itr, h i a (by omega) (by omega), ih (i + 1) _ (fun k b h1 h2 => h k b (by omega) (by omega))]
theorem itr_sim {α β : Type} {f : α → Nat → α} {g : β → Nat → β} {P : Nat → α → β → Prop} : ∀ (j i : Nat) (a : α) (b : β), P i a b → (∀ k a b, i ≤ k → k < i + j → P k a b → P (k + 1) (f a k) (g b k)) → P (i + j) (itr f i j a) (itr g i j b) := by
  intro j
  induction j with
  | zero => intro i a b h _; exact h
  | succ j ih =>
    intro i a b h hs
    rw [show i + (j + 1) = i + 1 + j by omega, itr, itr]
    exact ih (i + 1) (f a i) (g b i) (hs i a b (by omega) (by omega) h) (fun k a b h1 h2 => hs k a b (by omega) (by omega))
/-- a loop word: as long as it goes on it is the step's; at the end what comes then -/
theorem loop_up {α : Type} {L : α → Int → Option pz_A} {f : α → Nat → α} {R : α → Option pz_A} {n : Nat} (h : ∀ (a : α) (i : Nat), i < n → L a (i : Int) = L (f a i) ((i + 1 : Nat) : Int)) (hn : ∀ a : α, L a (n : Int) = R a) : ∀ (j i : Nat) (a : α), i + j = n → L a (i : Int) = R (itr f i j a) := by
  intro j
  induction j with
  | zero =>
    intro i a hj
    rw [Nat.add_zero] at hj
    subst hj
    exact hn a
  | succ j ih =>
    intro i a hj
    rw [h a i (by omega), ih (i + 1) (f a i) (by omega)]
    rfl
/-- the same, with what holds on the way -/
theorem loop_inv {α : Type} {L : α → Int → Option pz_A} {f : α → Nat → α} {R : α → Option pz_A} {n : Nat} (P : Nat → α → Prop) (h : ∀ (a : α) (i : Nat), i < n → P i a → L a (i : Int) = L (f a i) ((i + 1 : Nat) : Int) ∧ P (i + 1) (f a i)) (hn : ∀ a : α, P n a → L a (n : Int) = R a) : ∀ (j i : Nat) (a : α), i + j = n → P i a → L a (i : Int) = R (itr f i j a) ∧ P n (itr f i j a) := by
  intro j
  induction j with
  | zero =>
    intro i a hj hp
    rw [Nat.add_zero] at hj
    subst hj
    exact ⟨hn a hp, hp⟩
  | succ j ih =>
    intro i a hj hp
    obtain ⟨h1, h2⟩ := h a i (by omega) hp
    obtain ⟨h3, h4⟩ := ih (i + 1) (f a i) (by omega) h2
    rw [h1]
    exact ⟨h3, h4⟩
/-! memory -/
theorem wr_same {M : pz_M} {k i : Nat} {x : Int} : pz_wr M k i x k i = x := by unfold pz_wr; rw [if_pos ⟨rfl, rfl⟩]
theorem wr_cell {M : pz_M} {k i c j : Nat} {x : Int} (h : c ≠ k) : pz_wr M k i x c j = M c j := by unfold pz_wr; rw [if_neg (fun z => h z.1)]
theorem wr_idx {M : pz_M} {k i j : Nat} {x : Int} (h : j ≠ i) : pz_wr M k i x k j = M k j := by unfold pz_wr; rw [if_neg (fun z => h z.2)]
theorem wr_at {M : pz_M} {k i j : Nat} {x : Int} : pz_wr M k i x k j = if j = i then x else M k j := by
  by_cases h : j = i
  · rw [if_pos h, h, wr_same]
  · rw [if_neg h, wr_idx h]
