/-! ===== Int32 by its bits: bt x i ===== -/
def bt (x : Int32) (i : Nat) : Bool := x.toBitVec.getLsbD i
theorem b_ext {x y : Int32} (h : ∀ i, i < 32 → bt x i = bt y i) : x = y := Int32.toBitVec_inj.mp (BitVec.eq_of_getLsbD_eq (fun i hi => h i hi))
theorem b_or (x y : Int32) (i : Nat) : bt (x ||| y) i = (bt x i || bt y i) := by unfold bt; rw [Int32.toBitVec_or, BitVec.getLsbD_or]
theorem b_and (x y : Int32) (i : Nat) : bt (x &&& y) i = (bt x i && bt y i) := by unfold bt; rw [Int32.toBitVec_and, BitVec.getLsbD_and]
theorem b_xor (x y : Int32) (i : Nat) : bt (x ^^^ y) i = (bt x i ^^ bt y i) := by unfold bt; rw [Int32.toBitVec_xor, BitVec.getLsbD_xor]
theorem b_big {x : Int32} {i : Nat} (h : 32 ≤ i) : bt x i = false := BitVec.getLsbD_of_ge _ _ h
theorem b_255 (i : Nat) : bt 255 i = decide (i < 8) := by
  rcases Nat.lt_or_ge i 32 with h | h
  · exact (by decide +kernel : ∀ i, i < 32 → bt 255 i = decide (i < 8)) i h
  · rw [b_big h, decide_eq_false (by omega)]
theorem b_65535 (i : Nat) : bt 65535 i = decide (i < 16) := by
  rcases Nat.lt_or_ge i 32 with h | h
  · exact (by decide +kernel : ∀ i, i < 32 → bt 65535 i = decide (i < 16)) i h
  · rw [b_big h, decide_eq_false (by omega)]
theorem b_m1 : ∀ i, i < 32 → bt (-1) i = true := by decide +kernel
theorem b_0 (i : Nat) : bt 0 i = false := BitVec.getLsbD_zero
theorem s_l : ∀ n, n < 32 → ((nI n &&& 31).toBitVec.smod 32).toNat = n := by decide +kernel
theorem s_u : ∀ n, n < 32 → (((nI n).toUInt32 &&& Int32.toUInt32 31).toBitVec % 32).toNat = n := by decide +kernel
theorem b_shl (n : Nat) (hn : n < 32) (x : Int32) {i : Nat} (hi : i < 32) : bt (x <<< (nI n &&& 31)) i = (decide (n ≤ i) && bt x (i - n)) := by
  unfold bt
  rw [Int32.toBitVec_shiftLeft]
  show (x.toBitVec <<< ((nI n &&& 31).toBitVec.smod 32).toNat).getLsbD i = _
  rw [s_l n hn, BitVec.getLsbD_shiftLeft]
  rcases Nat.lt_or_ge i n with h | h
  · simp [h, Nat.not_le.mpr h]
  · simp [hi, h, Nat.not_lt.mpr h]
theorem b_ushr (n : Nat) (hn : n < 32) (x : Int32) (i : Nat) : bt ((x.toUInt32 >>> ((nI n).toUInt32 &&& Int32.toUInt32 31)).toInt32) i = bt x (n + i) := by
  show (x.toUInt32 >>> ((nI n).toUInt32 &&& Int32.toUInt32 31)).toBitVec.getLsbD i = x.toUInt32.toBitVec.getLsbD (n + i)
  rw [UInt32.toBitVec_shiftRight]
  show (x.toUInt32.toBitVec >>> (((nI n).toUInt32 &&& Int32.toUInt32 31).toBitVec % 32).toNat).getLsbD i = _
  rw [s_u n hn, BitVec.getLsbD_ushiftRight]
theorem b_sshr (n : Nat) (hn : n < 32) (x : Int32) {i : Nat} (hi : i < 32) : bt (x >>> (nI n &&& 31)) i = if n + i < 32 then bt x (n + i) else bt x 31 := by
  unfold bt
  rw [Int32.toBitVec_shiftRight]
  show (x.toBitVec.sshiftRight ((nI n &&& 31).toBitVec.smod 32).toNat).getLsbD i = _
  rw [s_l n hn, BitVec.getLsbD_sshiftRight, BitVec.msb_eq_getLsbD_last]
  simp [hi]
theorem bp_b (x : Int32) : x.toInt8.toInt32 &&& 255 = x &&& 255 := by
  apply Int32.toBitVec_inj.mp
  rw [Int32.toBitVec_and, Int32.toBitVec_and, Int8.toBitVec_toInt32, Int32.toBitVec_toInt8]
  apply BitVec.eq_of_getLsbD_eq
  intro i hi
  rw [BitVec.getLsbD_and, BitVec.getLsbD_and]
  have hm : ∀ i < 32, 8 ≤ i → (255 : Int32).toBitVec.getLsbD i = false := by decide
  rcases Nat.lt_or_ge i 8 with z | z
  · rw [BitVec.getLsbD_signExtend, BitVec.getLsbD_signExtend, if_pos z, if_pos hi]
    simp only [z, hi, decide_true, Bool.true_and]
  · rw [hm i hi z]; simp
/-! ===== the tape ===== -/
theorem oct_0 : ∀ k : Nat, k < 256 → ian ((k : Int) - 128) 255 = ((k : Int) - 128) % 256 := by decide +kernel
theorem oct {x : Int} (h1 : -128 ≤ x) (h2 : x ≤ 127) : ian x 255 = x % 256 := by
  have := oct_0 (x + 128).toNat (by omega)
  rw [show (((x + 128).toNat : Nat) : Int) - 128 = x by omega] at this
  exact this
theorem Mod_octet {N : pz_M} {x : Int} (h0 : 0 ≤ x) (h1 : x < 260) (hb : -128 ≤ N 107 x.toNat ∧ N 107 x.toNat ≤ 127) : m_Mod_octet x N = some (some (pzI (N 107 x.toNat % 256)), N) := by
  rw [m_Mod_octet_eq, grd_pos ⟨h0, h1⟩, oct hb.1 hb.2]
def tk (M : pz_M) (x : Int) : pz_M := pz_wr (pz_wr (pz_wr (pz_wr M 29 1 0) 29 2 0) 29 3 x) 29 4 0
theorem Tape_take (x lo hi : Int) (M : pz_M) : m_Tape_take x lo hi M = if lo ≤ x ∧ x ≤ hi ∧ x ≤ M 29 1 then some (some (pzI 1), tk M x) else some (some (pzI 0), M) := by
  rw [m_Tape_take_eq]
  by_cases h1 : x < lo
  · rw [if_pos h1, if_neg (show ¬ (lo ≤ x ∧ x ≤ hi ∧ x ≤ M 29 1) by omega)]
  rw [if_neg h1]
  by_cases h2 : hi < x
  · rw [if_pos h2, if_neg (show ¬ (lo ≤ x ∧ x ≤ hi ∧ x ≤ M 29 1) by omega)]
  rw [if_neg h2]
  by_cases h3 : M 29 1 < x
  · rw [if_pos h3, if_neg (show ¬ (lo ≤ x ∧ x ≤ hi ∧ x ≤ M 29 1) by omega)]
  rw [if_neg h3, if_pos (show (lo ≤ x ∧ x ≤ hi ∧ x ≤ M 29 1) by omega)]
  rfl
theorem tk_k1 (M : pz_M) (x : Int) : kX1 M (tk M x) := ((((kX1.rf M).wr rfl).wr rfl).wr rfl).wr rfl
theorem tk_cell {M : pz_M} {x : Int} {c i : Nat} (h : c ≠ 29) : tk M x c i = M c i := by unfold tk; rw [wr_cell h, wr_cell h, wr_cell h, wr_cell h]
theorem tk_end {M : pz_M} {x : Int} : tk M x 29 3 = x := by unfold tk; rw [wr_idx (by decide), wr_same]
theorem tk_at {M : pz_M} {x : Int} : tk M x 29 2 = 0 := by unfold tk; rw [wr_idx (by decide), wr_idx (by decide), wr_same]
theorem tk_size {M : pz_M} {x : Int} : tk M x 29 1 = 0 := by unfold tk; rw [wr_idx (by decide), wr_idx (by decide), wr_idx (by decide), wr_same]
theorem tk_row {M : pz_M} {x : Int} {c : Nat} (h : c ≠ 29) : tk M x c = M c := funext fun i => tk_cell h
theorem rl_tk {M N : pz_M} (h : rl M N) (x : Int) : rl (tk M x) (pz_wr N 100 8 0) := by
  refine rl_keep1 h (tk_k1 M x) ((kY1.rf N).wr rfl) ?_
  obtain ⟨ht, -⟩ := h
  refine ⟨by rw [tk_size, wr_same], by rw [tk_size]; omega, by rw [tk_size]; omega, fun i hi => ?_⟩
  rw [tk_cell (by decide), wr_cell (by decide)]
  exact ht.2.2.2 i hi
theorem Tape_byteAt {M : pz_M} {x : Int} (h0 : 0 ≤ x) (h1 : x < M 29 3) (h2 : x < 260) : m_Tape_byteAt x M = some (some (pzI (M 30 x.toNat)), M) := by
  rw [m_Tape_byteAt_eq, if_neg (show ¬ x < 0 by omega), if_pos h1, if_pos h2, grd_pos ⟨h0, h2⟩]
theorem ag_check {M N : pz_M} (h : rl M N) (x : Int) : agree (m_Desk_check x M) (m_Mod_check x N) := by
  have hT := h.1
  rw [m_Desk_check_eq, m_Mod_check_eq, Tape_take, Mod_in, bI_some, b01_ite]
  by_cases hx : 0 ≤ x ∧ x ≤ 24 ∧ x ≤ M 29 1
  · rw [if_pos hx, bI_some, if_neg (show ¬ (1 : Int) = 0 by omega), if_pos (show 0 ≤ x ∧ x ≤ 24 by omega), if_neg (show ¬ N 100 8 < x by rw [← hT.1]; omega), bM_eq]
    have h2 := rl_tk h x
    have hend : tk M x 29 3 = x := tk_end
    generalize tk M x = M1 at h2 hend ⊢
    generalize pz_wr N 100 8 0 = N1 at h2 ⊢
    have h2' := h2
    obtain ⟨ht, ⟨kc, n, hc, hs, hl⟩, -, -, -⟩ := h2'
    obtain ⟨c0, c1, c2, c3, c4, hn, c6, c7⟩ := hc
    have L : ∀ (j : Nat) (y : Int) (w : pz_V), 0 ≤ y → y + j = x → ∃ r, m_Desk_check_19 x y w M1 = some (some (pzI r), M1) ∧ m_Mod_check_28 x y N1 = some (some (pzI r), N1) := by
      intro j
      induction j with
      | zero => intro y w h0 hj; exact ⟨-1, by rw [m_Desk_check_19_eq, if_neg (show ¬ y < x by omega)], by rw [m_Mod_check_28_eq, if_neg (show ¬ y < x by omega)]⟩
      | succ j ih =>
        intro y w h0 hj
        have hb := ht.2.2.2 y.toNat (by omega)
        have step : ∀ v : Int, ∃ r, m_Desk_check_53 x y w v M1 = some (some (pzI r), M1) ∧ m_Mod_check_70 x y v (N1 107 y.toNat % 256) N1 = some (some (pzI r), N1) := by
          intro v
          rw [m_Desk_check_53_eq, Tape_byteAt h0 (by omega) (by omega), bI_some, hb.2.2, m_Mod_check_70_eq, ia_eq (by omega) (by omega)]
          by_cases hv : N1 107 y.toNat % 256 = v
          · rw [if_pos hv, if_pos hv]
            exact ih (y + 1) _ (by omega) (by omega)
          · rw [if_neg hv, if_neg hv]
            exact ⟨y, rfl, rfl⟩
        rw [m_Desk_check_19_eq, if_pos (show y < x by omega), m_Mod_check_28_eq, if_pos (show y < x by omega), Mod_octet h0 (by omega) ⟨hb.1, hb.2.1⟩, bI_some, Mod_isCase c4 hn, bI_some, b01_ite]
        by_cases hy : y < (n : Int)
        · have hp := hs.1 y.toNat (by omega)
          have h10 : M1 50 y.toNat = 10 ↔ N1 101 y.toNat = 2 := pl_10 hp.1
          rw [if_pos (show y < M1 49 4 by omega), dk_nat c1, Ter_open (k := 49) rfl (dk_cls c0) h0 (by omega), bI_some, if_pos (show 0 ≤ y ∧ y < (n : Int) from ⟨h0, hy⟩), Mod_isLeft c4 hn, bI_some, b01_ite, grd_pos (by omega)]
          by_cases hd : M1 50 y.toNat = 10
          · have hno : ¬ (0 ≤ y ∧ y < (n : Int) ∧ N1 101 y.toNat ≠ 2) := fun z => z.2.2 (h10.mp hd)
            rw [if_pos hd, if_neg hno]
            exact step 0
          · have hyes : 0 ≤ y ∧ y < (n : Int) ∧ N1 101 y.toNat ≠ 2 := ⟨h0, hy, fun z => hd (h10.mpr z)⟩
            rw [if_neg hd, if_pos hyes, (c7 y.toNat (by omega)).2.2.2.1]
            exact step _
        · rw [if_neg (show ¬ y < M1 49 4 by omega), if_neg (show ¬ (0 ≤ y ∧ y < (n : Int)) by omega)]
          exact step 255
    obtain ⟨r, g1, g2⟩ := L x.toNat 0 pzN (by omega) (by omega)
    exact agree_same h2 r g1 g2
  · rw [if_neg hx, bI_some, if_pos rfl]
    by_cases h1 : 0 ≤ x ∧ x ≤ 24
    · rw [if_pos h1, if_pos (show N 100 8 < x by rw [← hT.1]; omega)]
      exact agree_same h _ rfl rfl
    · rw [if_neg h1]
      exact agree_same h _ rfl rfl
/-! what is fed -/
theorem low8 (a : Int32) (n : Nat) (hn : n ≤ 24) : (a.toUInt32 >>> ((nI n).toUInt32 &&& Int32.toUInt32 31)).toInt32 &&& 255 = (a >>> (nI n &&& 31)).toInt8.toInt32 &&& 255 := by
  rw [bp_b]
  apply b_ext
  intro i hi
  rw [b_and, b_and, b_255, b_ushr n (by omega), b_sshr n (by omega) a hi]
  by_cases h8 : i < 8
  · rw [if_pos (by omega)]
  · rw [decide_eq_false h8, Bool.and_false, Bool.and_false]
theorem i8_rg (a : Int8) : -128 ≤ a.toInt32.toInt ∧ a.toInt32.toInt ≤ 127 := by
  rw [Int8.toInt_toInt32]
  have h1 := Int8.le_toInt a
  have h2 := Int8.toInt_lt a
  constructor <;> omega
theorem itb_rg (x : Int) : -128 ≤ itb x ∧ itb x ≤ 127 := i8_rg _
theorem pzJ_toInt (a : Int32) : pzJ a.toInt = a := Int32.ofInt_toInt a
theorem fed_byte (v : Int) (n : Nat) (hn : n ≤ 24) : ian (iuh v (n : Int)) 255 = itb (itb (ihr v (n : Int))) % 256 := by
  have e1 : ian (iuh v (n : Int)) 255 = (((pzJ v).toUInt32 >>> ((nI n).toUInt32 &&& Int32.toUInt32 31)).toInt32 &&& 255).toInt := by
    unfold ian iuh f_and f_ushr
    rw [pzJ_toInt, pzJ_nat]
    rfl
  have e2 : itb (itb (ihr v (n : Int))) = itb (ihr v (n : Int)) := by
    unfold itb f_i2b
    rw [pzJ_toInt]
    congr 1
    apply Int32.toInt_inj.mp
    have h := i8_rg (pzJ (ihr v (n : Int))).toInt8
    rw [Int8.toInt_toInt32, Int32.toInt_toInt8]
    rw [Int.bmod_eq_of_le] <;> omega
  have e3 : itb (ihr v (n : Int)) = ((pzJ v >>> (nI n &&& 31)).toInt8.toInt32).toInt := by
    unfold itb f_i2b ihr f_shr
    rw [pzJ_toInt, pzJ_nat]
  have hr := itb_rg (ihr v (n : Int))
  rw [e2, ← oct hr.1 hr.2, e1, low8 _ n hn, e3]
  unfold ian f_and
  rw [pzJ_toInt]
  rfl
/-- the tapes belong together, and so many bytes have room -/
def rt (M N : pz_M) (s : Int) : Prop := M 29 1 = s ∧ N 100 8 = s ∧ 0 ≤ s ∧ ∀ i, i < 260 → -128 ≤ N 107 i ∧ N 107 i ≤ 127 ∧ M 30 i = N 107 i % 256
theorem fed_one {M N : pz_M} {s v : Int} {n : Nat} (h : rt M N s) (hs : s < 260) (hn : n ≤ 24) : rt (pz_wr (pz_wr M 30 s.toNat (ian (iuh v (n : Int)) 255)) 29 1 (s + 1)) (pz_wr (pz_wr N 107 s.toNat (itb (itb (ihr v (n : Int))))) 100 8 (s + 1)) (s + 1) := by
  obtain ⟨h1, h2, h3, h4⟩ := h
  refine ⟨wr_same, wr_same, by omega, fun i hi => ?_⟩
  rw [wr_cell (k := 100) (by decide), wr_at, wr_cell (k := 29) (by decide), wr_at]
  by_cases e : i = s.toNat
  · rw [if_pos e, if_pos e]
    have := itb_rg (itb (ihr v (n : Int)))
    exact ⟨this.1, this.2, fed_byte v n hn⟩
  · rw [if_neg e, if_neg e]
    exact h4 i hi
theorem Tape_add_L {M N : pz_M} {v : Int} : ∀ (k : Nat) (M N : pz_M) (s : Int), k ≤ 3 → rt M N s → s + k < 260 → ∃ M' N', m_Tape_add_3 v ((8 * k : Nat) : Int) M = some (none, M') ∧ m_Mod_types_2 v (k : Int) N = some (none, N') ∧ rt M' N' (s + k + 1) ∧ kX1 M M' ∧ kY1 N N' := by
  have one : ∀ (k : Nat) (M N : pz_M) (s : Int), k ≤ 3 → rt M N s → s < 260 → m_Tape_add_3 v ((8 * k : Nat) : Int) M = m_Tape_add_3 v (((8 * k : Nat) : Int) - 8) (pz_wr (pz_wr M 30 s.toNat (ian (iuh v ((8 * k : Nat) : Int)) 255)) 29 1 (s + 1)) ∧ m_Mod_types_2 v (k : Int) N = m_Mod_types_2 v ((k : Int) - 1) (pz_wr (pz_wr N 107 s.toNat (itb (itb (ihr v ((8 * k : Nat) : Int))))) 100 8 (s + 1)) := by
    intro k M N s hk h hs
    obtain ⟨h1, h2, h3, h4⟩ := h
    constructor
    · rw [m_Tape_add_3_eq, if_neg (by omega), h1, if_pos hs, grd_pos ⟨h3, hs⟩, bM_eq, bM_eq, wr_cell (by decide), h1, ia_eq (by omega) (by omega), ia_eq (by omega) (by omega)]
      rfl
    · rw [m_Mod_types_2_eq, if_neg (by omega), h2, grd_pos ⟨h3, hs⟩, bM_eq, bM_eq, wr_cell (by decide), h2, ia_eq (by omega) (by omega), ia_eq (by omega) (by omega), imu_eq (by omega) (by omega), show (8 * (k : Int)) = ((8 * k : Nat) : Int) by omega]
      rfl
  intro k
  induction k with
  | zero =>
    intro M N s hk h hs
    obtain ⟨e1, e2⟩ := one 0 M N s hk h (by omega)
    have hr := fed_one (v := v) (n := 8 * 0) h (by omega) (by omega)
    refine ⟨_, _, ?_, ?_, by rw [show s + ((0 : Nat) : Int) + 1 = s + 1 by omega]; exact hr, ((kX1.rf M).wr rfl).wr rfl, ((kY1.rf N).wr rfl).wr rfl⟩
    · rw [e1, m_Tape_add_3_eq, if_pos (by omega)]
    · rw [e2, m_Mod_types_2_eq, if_pos (by omega)]
  | succ k ih =>
    intro M N s hk h hs
    obtain ⟨e1, e2⟩ := one (k + 1) M N s hk h (by omega)
    have hr := fed_one (v := v) (n := 8 * (k + 1)) h (by omega) (by omega)
    obtain ⟨M', N', g1, g2, g3, g4, g5⟩ := ih _ _ (s + 1) (by omega) hr (by omega)
    refine ⟨M', N', ?_, ?_, by rw [show s + ((k + 1 : Nat) : Int) + 1 = s + 1 + k + 1 by omega]; exact g3, (((kX1.rf M).wr rfl).wr rfl).tr g4, (((kY1.rf N).wr rfl).wr rfl).tr g5⟩
    · rw [e1, show ((8 * (k + 1) : Nat) : Int) - 8 = ((8 * k : Nat) : Int) by omega]
      exact g1
    · rw [e2, show ((k + 1 : Nat) : Int) - 1 = (k : Int) by omega]
      exact g2
theorem fed_int {M N : pz_M} {s : Int} (v : Int) (h : rt M N s) (hs : s + 4 ≤ 260) : ∃ M' N', m_Tape_add v M = some (none, M') ∧ m_Mod_types v N = some (none, N') ∧ rt M' N' (s + 4) ∧ kX1 M M' ∧ kY1 N N' := by
  obtain ⟨M', N', g1, g2, g3, g4, g5⟩ := Tape_add_L (M := M) (N := N) (v := v) 3 M N s (by omega) h (by omega)
  exact ⟨M', N', by rw [m_Tape_add_eq]; exact g1, by rw [m_Mod_types_eq]; exact g2, by rw [show s + 4 = s + ((3 : Nat) : Int) + 1 by omega]; exact g3, g4, g5⟩
theorem ag_feed {M N : pz_M} (h : rl M N) (a b c d e : Int) : agree (m_Desk_feed a b c d e M) (m_Mod_feed a b c d e N) := by
  have hT := h.1
  have h0 : rt M N (M 29 1) := ⟨rfl, hT.1.symm, hT.2.1, hT.2.2.2⟩
  rw [m_Desk_feed_eq, m_Mod_feed_eq, m_Tape_hasRoom_eq, ← hT.1, ia_eq (by have := hT.2; omega) (by have := hT.2; omega)]
  by_cases hr : 260 < M 29 1 + 20
  · rw [if_pos hr, if_pos hr, bI_some, if_pos rfl]
    exact agree_same h _ rfl rfl
  · rw [if_neg hr, if_neg hr, bI_some, if_neg (show ¬ (1 : Int) = 0 by omega)]
    obtain ⟨M1, N1, p1, q1, r1, s1, t1⟩ := fed_int a h0 (by omega)
    obtain ⟨M2, N2, p2, q2, r2, s2, t2⟩ := fed_int b r1 (by omega)
    obtain ⟨M3, N3, p3, q3, r3, s3, t3⟩ := fed_int c r2 (by omega)
    obtain ⟨M4, N4, p4, q4, r4, s4, t4⟩ := fed_int d r3 (by omega)
    obtain ⟨M5, N5, p5, q5, r5, s5, t5⟩ := fed_int e r4 (by omega)
    rw [p1, bV_some, p2, bV_some, p3, bV_some, p4, bV_some, p5, bV_some, q1, bV_some, q2, bV_some, q3, bV_some, q4, bV_some, q5, bV_some]
    refine ⟨M5 29 1, M5, N5, rfl, by rw [r5.1, r5.2.1], rl_keep1 h ((((s1.tr s2).tr s3).tr s4).tr s5) ((((t1.tr t2).tr t3).tr t4).tr t5) ⟨by rw [r5.1, r5.2.1], by rw [r5.1]; have := hT.2; omega, by rw [r5.1]; omega, r5.2.2.2⟩⟩
