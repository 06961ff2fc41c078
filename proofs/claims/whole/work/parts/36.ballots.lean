/-! ballots: the reading -/
theorem fail_X {M : pz_M} {p e : Nat} {t : Nat → Int} (h : txX M p e t) (k : Int) : m_Tape_fail k M = some (some (pzI 0), pz_wr M 29 4 (isb (imu (-1000) k) p)) := by rw [m_Tape_fail_eq, bM_eq, h.1]
theorem failAt_X (M : pz_M) (k p : Int) : m_Tape_failAt k p M = some (some (pzI 0), pz_wr M 29 4 (isb (imu (-1000) k) p)) := by rw [m_Tape_failAt_eq, bM_eq]
theorem fail_Y (N : pz_M) (k p : Int) : m_Mod_wrongAt k p N = some (some (pzI 0), pz_wr N 100 11 (isb (imu (-1000) k) p)) := by rw [m_Mod_wrongAt_eq, bM_eq]
def rdB (M N : pz_M) (n l : Nat) : Prop := M 32 2 = l ∧ N 100 37 = l ∧ M 32 3 = n ∧ N 100 44 = n ∧ 2 ≤ n ∧ n ≤ 6 ∧ l ≤ 12 ∧ (∀ k, k < l → N 128 k = M 33 k ∧ 0 ≤ M 33 k ∧ M 33 k ≤ 99) ∧ (∀ k c, k < l → c < n → N 129 (6 * k + c) = M 34 (6 * k + c)) ∧ (∀ k c d, k < l → c < n → d < n → M 34 (6 * k + c) = M 34 (6 * k + d) → c = d) ∧ (∀ i, 6 * l ≤ i → i < 72 → M 34 i = -1)
def lnI (M N : pz_M) (n l x m : Nat) : Prop := M 32 2 = l ∧ N 100 37 = l ∧ M 32 3 = n ∧ N 100 44 = n ∧ 2 ≤ n ∧ n ≤ 6 ∧ l < 12 ∧ (∀ k, k ≤ l → N 128 k = M 33 k ∧ 0 ≤ M 33 k ∧ M 33 k ≤ 99) ∧ (∀ k c, k < l → c < n → N 129 (6 * k + c) = M 34 (6 * k + c)) ∧ (∀ k c d, k < l → c < n → d < n → M 34 (6 * k + c) = M 34 (6 * k + d) → c = d) ∧ (∀ i, 6 * (l + 1) ≤ i → i < 72 → M 34 i = -1) ∧ m < 64 ∧ (∀ c, c < n → m.testBit c = true → N 129 (6 * l + c) = M 34 (6 * l + c) ∧ 0 ≤ M 34 (6 * l + c) ∧ M 34 (6 * l + c) < x) ∧ (∀ c, c < n → m.testBit c = false → M 34 (6 * l + c) = -1) ∧ (∀ c d, c < n → d < n → m.testBit c = true → m.testBit d = true → M 34 (6 * l + c) = M 34 (6 * l + d) → c = d) ∧ cntB (fun c => m.testBit c) n = x
def resB (a b : Option pz_A) (M N : pz_M) (n l e : Nat) (t : Nat → Int) : Prop := (∃ M' N', a = some (some (pzI 0), M') ∧ b = some (some (pzI 0), N') ∧ M' 29 4 = N' 100 11 ∧ kX M M' ∧ kY N N') ∨ (∃ M' N' p', a = some (some (pzI 1), M') ∧ b = some (some (pzI 1), N') ∧ txX M' p' e t ∧ txY N' p' e t ∧ rdB M' N' n l ∧ kX M M' ∧ kY N N')
theorem resB.tr {a b : Option pz_A} {M N M1 N1 : pz_M} {n l e : Nat} {t : Nat → Int} (h : resB a b M1 N1 n l e t) (hX : kX M M1) (hY : kY N N1) : resB a b M N n l e t := by
  rcases h with ⟨M', N', g1, g2, g3, g4, g5⟩ | ⟨M', N', p', g1, g2, g3, g4, g5, g6, g7⟩
  · exact Or.inl ⟨M', N', g1, g2, g3, hX.tr g4, hY.tr g5⟩
  · exact Or.inr ⟨M', N', p', g1, g2, g3, g4, g5, hX.tr g6, hY.tr g7⟩
theorem resB_bad {M N : pz_M} {n l e : Nat} {t : Nat → Int} (f : Int) : resB (some (some (pzI 0), pz_wr M 29 4 f)) (some (some (pzI 0), pz_wr N 100 11 f)) M N n l e t := Or.inl ⟨_, _, rfl, rfl, by rw [wr_same, wr_same], (kX.rf M).wr rfl, (kY.rf N).wr rfl⟩
theorem cntB_full {P : Nat → Bool} : ∀ n : Nat, cntB P n = n → ∀ c, c < n → P c = true := by
  intro n
  induction n with
  | zero => intro _ c hc; omega
  | succ n ih =>
    intro h c hc
    have h1 : cntB P n + (if P n then 1 else 0) = ((n + 1 : Nat) : Int) := h
    have h2 := cntB_le P n
    by_cases e : P n = true
    · rw [if_pos e] at h1
      by_cases e2 : c = n
      · rw [e2]; exact e
      · exact ih (by omega) c (by omega)
    · rw [if_neg e] at h1
      omega
theorem cntB_add {P Q : Nat → Bool} {x : Nat} (h0 : P x = false) (h1 : Q x = true) (h2 : ∀ c, c ≠ x → Q c = P c) : ∀ n, x < n → cntB Q n = cntB P n + 1 := by
  intro n
  induction n with
  | zero => intro h; omega
  | succ n ih =>
    intro h
    show cntB Q n + (if Q n then 1 else 0) = cntB P n + (if P n then 1 else 0) + 1
    by_cases e : n = x
    · rw [e, h0, h1, cntB_congr (P := Q) (Q := P) x (fun c hc => h2 c (by omega)), if_pos rfl, if_neg Bool.false_ne_true]
      omega
    · rw [ih (by omega), h2 n e]
      omega
theorem Cab_isMin {M : pz_M} {n : Nat} (h : M 32 3 = n) (hn : n ≤ 6) (x : Int) : m_Cabinet_isMinister x M = some (some (pzI (b01 (0 ≤ x ∧ x ≤ (n : Int) - 1))), M) := by
  rw [m_Cabinet_isMinister_eq, h]
  by_cases a : x < 0
  · rw [if_pos a, b01_f (by omega)]
  · rw [if_neg a]
    by_cases b : x < n
    · rw [if_pos b, if_pos (show x < 6 by omega), b01_t (by omega)]
    · rw [if_neg b, b01_f (by omega)]
theorem ln_letters {n l e : Nat} {t : Nat → Int} : ∀ (j x m : Nat) (M N : pz_M) (p : Nat) (w u1 u4 : pz_V), x + j = n → txX M p e t → txY N p e t → lnI M N n l x m → resB (m_Cabinet_readLine_91 w (x : Int) M) (m_Mod_readsBallot_71 u1 (m : Int) (x : Int) u4 N) M N n (l + 1) e t := by
  intro j
  induction j with
  | zero =>
    intro x m M N p w u1 u4 hj hX hN hI
    obtain ⟨a1, a2, a3, a4, a5, a6, a7, a8, a9, a10, a11, a12, a13, a14, a15, a16⟩ := hI
    have ex : x = n := by omega
    subst ex
    have hall := cntB_full x a16
    rw [m_Cabinet_readLine_91_eq, a3, if_neg (show ¬ (x : Int) < x by omega), bM_eq, a1, ia_eq (by omega) (by omega), m_Mod_readsBallot_71_eq, a4, if_neg (show ¬ (x : Int) < x by omega), bM_eq, a2, ia_eq (by omega) (by omega)]
    refine Or.inr ⟨_, _, p, rfl, rfl, hX.wr (by omega) (by omega), hN.wr (by omega) (by omega), ?_, (kX.rf M).wr rfl, (kY.rf N).wr rfl⟩
    refine ⟨by rw [wr_same]; rfl, by rw [wr_same]; rfl, by rw [wr_idx (by decide)]; exact a3, by rw [wr_idx (by decide)]; exact a4, a5, a6, by omega, ?_, ?_, ?_, ?_⟩
    · intro k hk
      rw [wr_cell (c := 128) (by decide), wr_cell (c := 33) (by decide)]
      exact a8 k (by omega)
    · intro k c hk hc
      rw [wr_cell (c := 129) (by decide), wr_cell (c := 34) (by decide)]
      by_cases ek : k = l
      · rw [ek]; exact (a13 c hc (hall c hc)).1
      · exact a9 k c (by omega) hc
    · intro k c d hk hc hd
      rw [wr_cell (c := 34) (by decide), wr_cell (c := 34) (by decide)]
      by_cases ek : k = l
      · rw [ek]; exact a15 c d hc hd (hall c hc) (hall d hd)
      · exact a10 k c d (by omega) hc hd
    · intro i h1 h2
      rw [wr_cell (c := 34) (by decide)]
      exact a11 i h1 h2
  | succ j ih =>
    intro x m M N p w u1 u4 hj hX hN hI
    have hI' := hI
    obtain ⟨a1, a2, a3, a4, a5, a6, a7, a8, a9, a10, a11, a12, a13, a14, a15, a16⟩ := hI'
    have e1 := hX.2.2
    have hh := hr_rg hX
    rw [m_Cabinet_readLine_91_eq, a3, if_pos (show (x : Int) < n by omega), m_Cabinet_readMinister_eq, Tape_peek hX, bI_some, isb_eq (by omega) (by omega), Cab_isMin a3 a6, bI_some, b01_ite]
    rw [m_Mod_readsBallot_71_eq, a4, if_pos (show (x : Int) < n by omega), Mod_here hN, bI_some, isb_eq (x := hr p e t) (by omega) (by omega), a4, isb_eq (x := (n : Int)) (by omega) (by omega), Mod_in, bI_some, b01_ite]
    by_cases c : 0 ≤ hr p e t - 97 ∧ hr p e t - 97 ≤ (n : Int) - 1
    · have hpe := hr_lt (show 0 ≤ hr p e t by omega)
      rw [if_pos c, if_pos c, Mod_has (by omega) (by omega) (by omega), bI_some, b01_ite]
      obtain ⟨z, hz⟩ : ∃ z : Nat, hr p e t - 97 = z := ⟨(hr p e t - 97).toNat, by omega⟩
      rw [hz, show ((z : Nat) : Int).toNat = z from rfl, m_Cabinet_rankOf_eq, a1, a2, imu_eq (x := (l : Int)) (by omega) (by omega), ia_eq (x := (l : Int) * 6) (by omega) (by omega), grd_pos (by omega), bI_some, imu_eq (x := 6) (y := (l : Int)) (by omega) (by omega), ia_eq (x := 6 * (l : Int)) (by omega) (by omega), show ((l : Int) * 6 + (z : Int)).toNat = 6 * l + z by omega, show (6 * (l : Int) + (z : Int)).toNat = 6 * l + z by omega]
      by_cases B : m.testBit z = true
      · rw [if_pos B, if_neg (show ¬ M 34 (6 * l + z) < 0 by have := (a13 z (by omega) B).2.1; omega), fail_X hX, bI_some, grd_pos (by omega), bI_some, if_pos rfl, hN.1, fail_Y, bI_some, grd_pos (by omega)]
        exact resB_bad _
      · have B' : m.testBit z = false := by cases h : m.testBit z <;> simp_all
        rw [if_neg B, if_pos (show M 34 (6 * l + z) < 0 by rw [a14 z (by omega) B']; omega), a1, imu_eq (x := (l : Int)) (by omega) (by omega), ia_eq (x := (l : Int) * 6) (by omega) (by omega), grd_pos (by omega), bM_eq, show ((l : Int) * 6 + (z : Int)).toNat = 6 * l + z by omega, Tape_step (hX.wr (k := 34) (by omega) (by omega)), bV_some, bI_some, if_neg (show ¬ (1 : Int) = 0 by omega), grd_pos (by omega), bM_eq, bM_eq, wr_cell (c := 100) (k := 129) (by decide), hN.1, ia_eq (x := (p : Int)) (by omega) (by omega), ihl_1 (by omega), iro_nat (by omega) (pow_31 (by omega)), ia_eq (x := (x : Int)) (by omega) (by omega)]
        have hm' : m ||| 2 ^ z < 64 := Nat.or_lt_two_pow (n := 6) a12 (Nat.pow_lt_pow_right (by omega) (by omega))
        have tb : ∀ d, (m ||| 2 ^ z).testBit d = (m.testBit d || decide (z = d)) := by
          intro d
          rw [Nat.testBit_or, Nat.testBit_two_pow]
        have hX2 := (hX.wr (k := 34) (j := 6 * l + z) (x := (x : Int)) (by omega) (by omega)).st hpe
        have hN2 := (hN.wr (k := 129) (j := 6 * l + z) (x := (x : Int)) (by omega) (by omega)).st hpe
        have kx2 : kX M (pz_wr (pz_wr M 34 (6 * l + z) (x : Int)) 29 2 ((p : Int) + 1)) := ((kX.rf M).wr rfl).wr rfl
        have ky2 : kY N (pz_wr (pz_wr N 129 (6 * l + z) (x : Int)) 100 9 ((p : Int) + 1)) := ((kY.rf N).wr rfl).wr rfl
        have e34 : ∀ i, pz_wr (pz_wr M 34 (6 * l + z) (x : Int)) 29 2 ((p : Int) + 1) 34 i = if i = 6 * l + z then (x : Int) else M 34 i := fun i => by rw [wr_cell (c := 34) (k := 29) (by decide), wr_at]
        have e129 : ∀ i, pz_wr (pz_wr N 129 (6 * l + z) (x : Int)) 100 9 ((p : Int) + 1) 129 i = if i = 6 * l + z then (x : Int) else N 129 i := fun i => by rw [wr_cell (c := 129) (k := 100) (by decide), wr_at]
        have eo : ∀ c i, (c = 32 ∨ c = 33) → pz_wr (pz_wr M 34 (6 * l + z) (x : Int)) 29 2 ((p : Int) + 1) c i = M c i := fun c i h => by rw [wr_cell (k := 29) (by omega), wr_cell (k := 34) (by omega)]
        have e37 : pz_wr (pz_wr N 129 (6 * l + z) (x : Int)) 100 9 ((p : Int) + 1) 100 37 = N 100 37 := by rw [wr_idx (by decide), wr_cell (by decide)]
        have e44 : pz_wr (pz_wr N 129 (6 * l + z) (x : Int)) 100 9 ((p : Int) + 1) 100 44 = N 100 44 := by rw [wr_idx (by decide), wr_cell (by decide)]
        have e128 : ∀ i, pz_wr (pz_wr N 129 (6 * l + z) (x : Int)) 100 9 ((p : Int) + 1) 128 i = N 128 i := fun i => by rw [wr_cell (by decide), wr_cell (by decide)]
        generalize pz_wr (pz_wr M 34 (6 * l + z) (x : Int)) 29 2 ((p : Int) + 1) = M1 at hX2 kx2 e34 eo
        generalize pz_wr (pz_wr N 129 (6 * l + z) (x : Int)) 100 9 ((p : Int) + 1) = N1 at hN2 ky2 e129 e37 e44 e128
        refine (ih (x + 1) (m ||| 2 ^ z) M1 N1 (p + 1) w u1 (pzI z) (by omega) hX2 hN2 ?_).tr kx2 ky2
        refine ⟨by rw [eo 32 2 (by omega)]; exact a1, by rw [e37]; exact a2, by rw [eo 32 3 (by omega)]; exact a3, by rw [e44]; exact a4, a5, a6, a7, ?_, ?_, ?_, ?_, hm', ?_, ?_, ?_, ?_⟩
        · intro k hk
          rw [e128, eo 33 k (by omega)]
          exact a8 k hk
        · intro k d hk hd
          rw [e129, e34, if_neg (by omega), if_neg (by omega)]
          exact a9 k d hk hd
        · intro k d f hk hd hf
          rw [e34, e34, if_neg (by omega), if_neg (by omega)]
          exact a10 k d f hk hd hf
        · intro i h1 h2
          rw [e34, if_neg (by omega)]
          exact a11 i h1 h2
        · intro d hd hb
          rw [tb, Bool.or_eq_true, decide_eq_true_eq] at hb
          rw [e129, e34]
          by_cases ed : d = z
          · rw [if_pos (by omega), if_pos (by omega)]; omega
          · rw [if_neg (by omega), if_neg (by omega)]
            have := a13 d hd (hb.elim id (fun y => absurd y.symm ed))
            omega
        · intro d hd hb
          rw [tb, Bool.or_eq_false_iff, decide_eq_false_iff_not] at hb
          rw [e34, if_neg (by omega)]
          exact a14 d hd hb.1
        · intro d f hd hf hb hb2
          rw [tb, Bool.or_eq_true, decide_eq_true_eq] at hb hb2
          rw [e34, e34]
          by_cases ed : d = z
          · by_cases ef : f = z
            · intro _; omega
            · rw [if_pos (by omega), if_neg (by omega)]
              have := (a13 f hf (hb2.elim id (fun y => absurd y.symm ef))).2.2
              intro _; omega
          · rw [if_neg (show ¬ 6 * l + d = 6 * l + z by omega)]
            have i1 := hb.elim id (fun y => absurd y.symm ed)
            by_cases ef : f = z
            · rw [if_pos (by omega)]
              have := (a13 d hd i1).2.2
              intro _; omega
            · rw [if_neg (by omega)]
              exact a15 d f hd hf i1 (hb2.elim id (fun y => absurd y.symm ef))
        · rw [cntB_add (P := fun c => m.testBit c) (x := z) B' (by rw [tb, decide_eq_true rfl, Bool.or_true]) (fun d hd => by rw [tb, decide_eq_false (fun y => hd y.symm), Bool.or_false]) n (by omega), a16]
          rfl
    · rw [if_neg c, if_neg c, fail_X hX, bI_some, grd_pos (by omega), bI_some, if_pos rfl, hN.1, fail_Y, bI_some, grd_pos (by omega)]
      exact resB_bad _
theorem ln_ok {n l e p : Nat} {t : Nat → Int} {M N : pz_M} (hX : txX M p e t) (hN : txY N p e t) (hI : rdB M N n l) : resB (m_Cabinet_readLine M) (m_Mod_readsBallot N) M N n (l + 1) e t ∧ (l = 12 → ∃ M' N', m_Cabinet_readLine M = some (some (pzI 0), M') ∧ m_Mod_readsBallot N = some (some (pzI 0), N') ∧ M' 29 4 = N' 100 11 ∧ kX M M' ∧ kY N N') := by
  obtain ⟨a1, a2, a3, a4, a5, a6, a7, a8, a9, a10, a11⟩ := hI
  have e1 := hX.2.2
  have hh := hr_rg hX
  rw [m_Cabinet_readLine_eq, Tape_isDigit hX, bI_some, b01_ite, Tape_peek hX, bI_some, isb_eq (by omega) (by omega), Cab_isMin a3 a6, bI_some, b01_ite]
  rw [m_Mod_readsBallot_eq, Mod_here hN, bI_some, isb_eq (x := hr p e t) (by omega) (by omega), a4, isb_eq (x := (n : Int)) (by omega) (by omega), Mod_in, bI_some, b01_ite, Mod_isDigit hN, bI_some, b01_ite]
  by_cases c : dg (hr p e t) ∨ (0 ≤ hr p e t - 97 ∧ hr p e t - 97 ≤ (n : Int) - 1)
  · have f1 : (if dg (hr p e t) then m_Cabinet_readLine_27 pzN pzN M else if (0 ≤ hr p e t - 97 ∧ hr p e t - 97 ≤ (n : Int) - 1) then m_Cabinet_readLine_27 pzN pzN M else (bI (m_Tape_fail 1 M) fun r8 M7 => grd (r8 = 0 ∨ r8 = 1) (some (some (pzI r8), M7)))) = m_Cabinet_readLine_27 pzN pzN M := by
      by_cases d : dg (hr p e t)
      · rw [if_pos d]
      · rw [if_neg d, if_pos (c.elim (fun y => absurd y d) id)]
    have f2 : ∃ w, (if (0 ≤ hr p e t - 97 ∧ hr p e t - 97 ≤ (n : Int) - 1) then m_Mod_readsBallot_39 (pzI (b01 (0 ≤ hr p e t - 97 ∧ hr p e t - 97 ≤ (n : Int) - 1))) pzN pzN pzN N else if dg (hr p e t) then m_Mod_readsBallot_39 (pzI (b01 (0 ≤ hr p e t - 97 ∧ hr p e t - 97 ≤ (n : Int) - 1))) pzN pzN pzN N else (bI (m_Mod_wrongAt 1 (N 100 9) N) fun r8 M7 => grd (r8 = 0 ∨ r8 = 1) (some (some (pzI r8), M7)))) = m_Mod_readsBallot_39 w pzN pzN pzN N := by
      refine ⟨pzI (b01 (0 ≤ hr p e t - 97 ∧ hr p e t - 97 ≤ (n : Int) - 1)), ?_⟩
      by_cases d : (0 ≤ hr p e t - 97 ∧ hr p e t - 97 ≤ (n : Int) - 1)
      · rw [if_pos d]
      · rw [if_neg d, if_pos (c.elim id (fun y => absurd y d))]
    obtain ⟨w, f2⟩ := f2
    rw [f1, f2, m_Cabinet_readLine_27_eq, a1, m_Mod_readsBallot_39_eq, a2]
    by_cases h12 : l = 12
    · rw [if_neg (show ¬ (l : Int) < 12 by omega), if_pos (show (l : Int) = 12 by omega), fail_X hX, bI_some, grd_pos (by omega), hN.1, fail_Y, bI_some, grd_pos (by omega)]
      exact ⟨resB_bad _, fun _ => ⟨_, _, rfl, rfl, by rw [wr_same, wr_same], (kX.rf M).wr rfl, (kY.rf N).wr rfl⟩⟩
    refine ⟨?_, fun z => absurd z h12⟩
    rw [if_pos (show (l : Int) < 12 by omega), if_neg (show ¬ (l : Int) = 12 by omega), Tape_isDigit hX, bI_some, b01_ite, m_Mod_readsOften_eq, a2, grd_pos (by omega), bM_eq, show ((l : Nat) : Int).toNat = l from rfl]
    have hN1 : txY (pz_wr N 128 l 1) p e t := hN.wr (by omega) (by omega)
    rw [Mod_isDigit hN1, bI_some, b01_ite]
    have go : ∀ (M1 N1 N2 : pz_M) (q : Nat) (v : Int) (u1 u3 u4 : pz_V), txX M1 q e t → txY N2 q e t → fX M M1 → fY (pz_wr N 128 l 1) N1 → 1 ≤ v → v ≤ 99 → (∀ c i, N2 c i = if c = 128 ∧ i = l then v else N1 c i) → resB (m_Cabinet_readLine_79 v u3 M1) (m_Mod_readsBallot_71 u1 0 0 u4 N2) M N n (l + 1) e t := by
      intro M1 N1 N2 q v u1 u3 u4 hX1 hN2 fx fy v0 v1 eN
      have gX : ∀ c i, (c ≠ 29 ∨ (i ≠ 2 ∧ i ≠ 4)) → M1 c i = M c i := fx
      have gY : ∀ c i, (c ≠ 100 ∨ (i ≠ 9 ∧ i ≠ 11 ∧ i ≠ 12)) → ¬ (c = 128 ∧ i = l) → N2 c i = N c i := by
        intro c i h1 h2
        rw [eN, if_neg h2, fy c i h1]
        unfold pz_wr
        rw [if_neg h2]
      rw [m_Cabinet_readLine_79_eq, gX 32 2 (by omega), a1, grd_pos (by omega), bM_eq, show ((l : Nat) : Int).toNat = l from rfl]
      have hX2 : txX (pz_wr M1 33 l v) q e t := hX1.wr (by omega) (by omega)
      have kx : kX M (pz_wr M1 33 l v) := fx.k.wr rfl
      have ky : kY N N2 := by
        intro c i z
        apply gY
        · unfold cY at z
          simp only [Bool.or_eq_true, Bool.and_eq_true, decide_eq_true_eq] at z
          omega
        · unfold cY at z
          simp only [Bool.or_eq_true, Bool.and_eq_true, decide_eq_true_eq] at z
          omega
      refine (ln_letters n 0 0 _ _ q _ _ _ (by omega) hX2 hN2 ?_).tr kx ky
      have e34 : ∀ i, pz_wr M1 33 l v 34 i = M 34 i := fun i => by rw [wr_cell (by decide)]; exact gX 34 i (by omega)
      refine ⟨by rw [wr_cell (by decide), gX 32 2 (by omega)]; exact a1, by rw [gY 100 37 (by omega) (by omega)]; exact a2, by rw [wr_cell (by decide), gX 32 3 (by omega)]; exact a3, by rw [gY 100 44 (by omega) (by omega)]; exact a4, a5, a6, by omega, ?_, ?_, ?_, ?_, by omega, ?_, ?_, ?_, ?_⟩
      · intro k hk
        by_cases ek : k = l
        · rw [ek, eN, if_pos ⟨rfl, rfl⟩, wr_same]; omega
        · rw [gY 128 k (by omega) (by omega), wr_idx ek, gX 33 k (by omega)]
          exact a8 k (by omega)
      · intro k d hk hd
        rw [gY 129 _ (by omega) (by omega), e34]
        exact a9 k d hk hd
      · intro k d f hk hd hf
        rw [e34, e34]
        exact a10 k d f hk hd hf
      · intro i h1 h2
        rw [e34]
        exact a11 i (by omega) h2
      · intro d hd hb
        rw [Nat.zero_testBit] at hb
        exact Bool.noConfusion hb
      · intro d hd hb
        rw [e34]
        exact a11 _ (by omega) (by omega)
      · intro d f hd hf hb
        rw [Nat.zero_testBit] at hb
        exact Bool.noConfusion hb
      · rw [cntB_congr (Q := fun _ => false) n (fun c _ => Nat.zero_testBit c)]
        clear hX2 kx ky e34
        have : ∀ k, cntB (fun _ => false) k = 0 := by
          intro k
          induction k with
          | zero => rfl
          | succ k ihk => show cntB (fun _ => false) k + _ = 0; rw [ihk]; rfl
        rw [this]
        rfl
    by_cases d : dg (hr p e t)
    · rw [if_pos d, if_pos d]
      rcases num_2 hX hN1 d with ⟨M', N', g1, g2, g3⟩ | ⟨M', N', p', v', g1, g2, g3, g4, g5, g6, g7, g8, g9, g10⟩
      · rw [g1, bI_some, if_pos (show (-1 : Int) < 0 by omega), g2, bI_some, if_pos rfl, bI_some, if_pos rfl]
        exact Or.inl ⟨M', N', rfl, rfl, g3.1, g3.2.1.k, ((kY.rf N).wr rfl).tr g3.2.2.k⟩
      · rw [g1, bI_some, if_neg (show ¬ v' < 0 by omega), g2, bI_some, if_neg (show ¬ (1 : Int) = 0 by omega), g3, hX.1, hN1.1]
        by_cases z : v' = 0
        · rw [if_pos z, if_pos z, failAt_X, bI_some, grd_pos (by omega), fail_Y, bI_some, grd_pos (by omega), bI_some, if_pos rfl]
          exact (resB_bad _).tr g9.k (((kY.rf N).wr rfl).tr g10.k)
        · have g37 : N' 100 37 = l := by rw [g10 100 37 (by omega), wr_cell (by decide)]; exact a2
          have g5' : v' < 100 := g5
          rw [if_neg z, if_neg z, g37, grd_pos (by omega), bM_eq, bI_some, if_neg (show ¬ (1 : Int) = 0 by omega), show ((l : Nat) : Int).toNat = l from rfl]
          exact go M' N' (pz_wr N' 128 l v') p' v' _ _ _ g6 (g7.wr (by omega) (by omega)) g9 g10 (by omega) (by omega) (fun c i => rfl)
    · rw [if_neg d, if_neg d, bI_some, if_neg (show ¬ (1 : Int) = 0 by omega)]
      exact go M (pz_wr N 128 l 1) (pz_wr N 128 l 1) p 1 _ _ _ hX hN1 (fX.rf M) (fY.rf _) (by omega) (by omega) (fun c i => by
        by_cases z : c = 128 ∧ i = l
        · rw [if_pos z, z.1, z.2, wr_same]
        · rw [if_neg z])
  · rw [if_neg (fun z => c (Or.inl z)), if_neg (fun z => c (Or.inr z)), if_neg (fun z => c (Or.inr z)), if_neg (fun z => c (Or.inl z)), fail_X hX, bI_some, grd_pos (by omega), hN.1, fail_Y, bI_some, grd_pos (by omega)]
    exact ⟨resB_bad _, fun _ => ⟨_, _, rfl, rfl, by rw [wr_same, wr_same], (kX.rf M).wr rfl, (kY.rf N).wr rfl⟩⟩
theorem bl_loop {n e : Nat} {t : Nat → Int} {w : Int} {u1 u2 : pz_V} : ∀ (j l : Nat) (M N : pz_M) (p : Nat) (w2 : pz_V), l + j = 12 → txX M p e t → txY N p e t → rdB M N n l →
    (∃ M' N', m_Cabinet_readFrom_20 w2 (l : Int) M = some (some (pzI 0), M') ∧ (bI (m_Mod_readsBallot N) fun r K => m_Mod_ballots_73 u1 u2 w r K) = m_Mod_ballots_115 u1 u2 w 0 N' ∧ M' 29 4 = N' 100 11 ∧ kX M M' ∧ kY N N') ∨
    (∃ M' N' l', m_Cabinet_readFrom_20 w2 (l : Int) M = some (some (pzI 1), M') ∧ (bI (m_Mod_readsBallot N) fun r K => m_Mod_ballots_73 u1 u2 w r K) = m_Mod_ballots_115 u1 u2 w 1 N' ∧ rdB M' N' n l' ∧ 0 < l' ∧ kX M M' ∧ kY N N') := by
  intro j
  induction j with
  | zero =>
    intro l M N p w2 hj hX hN hI
    obtain ⟨M', N', g1, g2, g3, g4, g5⟩ := (ln_ok hX hN hI).2 (by omega)
    left
    rw [m_Cabinet_readFrom_20_eq, if_neg (show ¬ 12 < (l : Int) by omega), g1, bI_some, if_pos rfl, g2, bI_some, m_Mod_ballots_73_eq, if_pos rfl]
    exact ⟨M', N', rfl, rfl, g3, g4, g5⟩
  | succ j ih =>
    intro l M N p w2 hj hX hN hI
    rw [m_Cabinet_readFrom_20_eq, if_neg (show ¬ 12 < (l : Int) by omega)]
    rcases (ln_ok hX hN hI).1 with ⟨M', N', g1, g2, g3, g4, g5⟩ | ⟨M', N', p', g1, g2, g3, g4, g5, g6, g7⟩
    · left
      rw [g1, bI_some, if_pos rfl, g2, bI_some, m_Mod_ballots_73_eq, if_pos rfl]
      exact ⟨M', N', rfl, rfl, g3, g4, g5⟩
    · rw [g1, bI_some, if_neg (show ¬ (1 : Int) = 0 by omega), g2, bI_some, m_Mod_ballots_73_eq, if_neg (show ¬ (1 : Int) = 0 by omega), m_Tape_atEnd_eq, g3.1, g3.2.1, g4.1, g4.2.1]
      by_cases c : (p' : Int) < e
      · rw [if_pos c, if_pos c, bI_some, if_pos rfl]
        rcases sgn_ok (x := 59) (by omega) g3 g4 with ⟨_, M2, N2, q1, q2, q3⟩ | ⟨_, M2, N2, q1, q2, q3, q4, q5, q6, q7⟩
        · left
          rw [q1, bI_some, if_pos rfl, q2, bI_some, if_pos rfl, m_Mod_ballots_73_eq, if_pos rfl]
          exact ⟨M2, N2, rfl, rfl, q3.1, g6.tr q3.2.1.k, g7.tr q3.2.2.k⟩
        · rw [q1, bI_some, if_neg (show ¬ (1 : Int) = 0 by omega), q2, bI_some, if_neg (show ¬ (1 : Int) = 0 by omega), ia_eq (by omega) (by omega)]
          have hI2 : rdB M2 N2 n (l + 1) := by
            obtain ⟨a1, a2, a3, a4, a5, a6, a7, a8, a9, a10, a11⟩ := g5
            have fx : ∀ c i, c ≠ 29 → M2 c i = M' c i := fun c i h => q6 c i (Or.inl h)
            refine ⟨by rw [fx _ _ (by decide)]; exact a1, by rw [q7 100 37 (by omega)]; exact a2, by rw [fx _ _ (by decide)]; exact a3, by rw [q7 100 44 (by omega)]; exact a4, a5, a6, a7, ?_, ?_, ?_, ?_⟩
            · intro k hk
              rw [q7 128 k (by omega), fx 33 k (by decide)]
              exact a8 k hk
            · intro k c hk hc
              rw [q7 129 _ (by omega), fx 34 _ (by decide)]
              exact a9 k c hk hc
            · intro k c d hk hc hd
              rw [fx 34 _ (by decide), fx 34 _ (by decide)]
              exact a10 k c d hk hc hd
            · intro i h1 h2
              rw [fx 34 _ (by decide)]
              exact a11 i h1 h2
          have same : (bI (m_Mod_readsBallot N2) fun r4 M3 => if r4 = 0 then m_Mod_ballots_73 u1 u2 w 0 M3 else m_Mod_ballots_73 u1 u2 w 1 M3) = (bI (m_Mod_readsBallot N2) fun r K => m_Mod_ballots_73 u1 u2 w r K) := by
            rcases (ln_ok q3 q4 hI2).1 with ⟨M3, N3, _, s2, _⟩ | ⟨M3, N3, p3, _, s2, _⟩
            · rw [s2, bI_some, bI_some, if_pos rfl]
            · rw [s2, bI_some, bI_some, if_neg (show ¬ (1 : Int) = 0 by omega)]
          rw [same]
          rcases ih (l + 1) M2 N2 (p' + 1) w2 (by omega) q3 q4 hI2 with ⟨M3, N3, s1, s2, s3, s4, s5⟩ | ⟨M3, N3, l3, s1, s2, s3, s4, s5, s6⟩
          · exact Or.inl ⟨M3, N3, s1, s2, s3, (g6.tr q6.k).tr s4, (g7.tr q7.k).tr s5⟩
          · exact Or.inr ⟨M3, N3, l3, s1, s2, s3, s4, (g6.tr q6.k).tr s5, (g7.tr q7.k).tr s6⟩
      · right
        rw [if_neg c, if_neg c, bI_some, if_neg (show ¬ (1 : Int) = 0 by omega)]
        exact ⟨M', N', l + 1, rfl, rfl, g5, by omega, g6, g7⟩
theorem kY_8 {N N' : pz_M} (h : kY N N') (x : Int) : kY (pz_wr N 100 8 x) (pz_wr N' 100 8 x) := by
  intro c i q
  unfold pz_wr
  by_cases z : c = 100 ∧ i = 8
  · rw [if_pos z, if_pos z]
  · rw [if_neg z, if_neg z]; exact h c i q
theorem txX_tk {M N : pz_M} (h : rl_tape M N) {x : Nat} (hx : (x : Int) ≤ M 29 1) : txX (tk M x) 0 x (M 30) := by
  refine ⟨tk_at, tk_end, by omega, by have := h.2.2.1; omega, fun i hi => ?_⟩
  rw [tk_cell (by decide)]
  have := (h.2.2.2 i hi).2.2
  exact ⟨rfl, by omega, by omega⟩
theorem ag_ballots {M N : pz_M} (h : rl M N) (n x w : Int) : agree (m_Desk_ballots n x w M) (m_Mod_ballots n x w N) := by
  have hT := h.1
  have eX : m_Desk_ballots n x w M = if 2 ≤ n ∧ n ≤ 6 then m_Desk_ballots_39 n x w pzN (b01 ((0 ≤ w ∧ w < n) ∨ (100 ≤ w ∧ w ≤ 104))) M else some (some (pzI (-1)), M) := by
    rw [m_Desk_ballots_eq, m_Desk_ballots_22_eq, m_Desk_ballots_34_eq, m_Desk_ballots_38_eq]
    by_cases h0 : 2 ≤ n ∧ n ≤ 6
    · rw [if_neg (show ¬ n < 2 by omega), if_neg (show ¬ 6 < n by omega), if_pos h0]
      by_cases h1 : w < 0
      · rw [if_pos h1, if_pos (show w < 100 by omega), b01_f (by omega)]
      · rw [if_neg h1]
        by_cases h2 : w < n
        · rw [if_pos h2, b01_t (by omega)]
        · rw [if_neg h2]
          by_cases h3 : w < 100
          · rw [if_pos h3, b01_f (by omega)]
          · rw [if_neg h3]
            by_cases h4 : 104 < w
            · rw [if_pos h4, b01_f (by omega)]
            · rw [if_neg h4, b01_t (by omega)]
    · rw [if_neg h0]
      by_cases h1 : n < 2
      · rw [if_pos h1]
      · rw [if_neg h1, if_pos (show 6 < n by omega)]
  rw [eX, m_Desk_ballots_39_eq, m_Mod_ballots_eq, Tape_take, Mod_in, bI_some, b01_ite, Mod_in, bI_some, b01_ite, Mod_in, bI_some, b01_ite, Mod_in, bI_some, b01_ite, b01_ite]
  by_cases hn : 2 ≤ n ∧ n ≤ 6
  rotate_left
  · rw [if_neg hn, if_neg hn]
    exact agree_same h _ rfl rfl
  rw [if_pos hn, if_pos hn, isb_eq (by omega) (by omega)]
  by_cases hx : 1 ≤ x ∧ x ≤ 120
  rotate_left
  · rw [if_neg hx, if_neg (show ¬ (1 ≤ x ∧ x ≤ 120 ∧ x ≤ M 29 1) by omega), bI_some, if_pos rfl, ite_self]
    exact agree_same h _ rfl rfl
  rw [if_pos hx]
  by_cases hw : (0 ≤ w ∧ w < n) ∨ (100 ≤ w ∧ w ≤ 104)
  rotate_left
  · rw [if_neg hw, if_neg (show ¬ (0 ≤ w ∧ w ≤ n - 1) by omega), if_neg (show ¬ (100 ≤ w ∧ w ≤ 104) by omega)]
    exact agree_same h _ rfl rfl
  rw [if_pos hw, show (if 0 ≤ w ∧ w ≤ n - 1 then m_Mod_ballots_42 n x w pzN N else if 100 ≤ w ∧ w ≤ 104 then m_Mod_ballots_42 n x w pzN N else some (some (pzI (-1)), N)) = m_Mod_ballots_42 n x w pzN N by
    by_cases h1 : 0 ≤ w ∧ w ≤ n - 1
    · rw [if_pos h1]
    · rw [if_neg h1, if_pos (show 100 ≤ w ∧ w ≤ 104 by omega)], m_Mod_ballots_42_eq]
  by_cases ht : x ≤ M 29 1
  rotate_left
  · rw [if_neg (show ¬ (1 ≤ x ∧ x ≤ 120 ∧ x ≤ M 29 1) by omega), bI_some, if_pos rfl, if_pos (show N 100 8 < x by rw [← hT.1]; omega)]
    exact agree_same h _ rfl rfl
  rw [if_pos (show (1 ≤ x ∧ x ≤ 120 ∧ x ≤ M 29 1) by omega), bI_some, if_neg (show ¬ (1 : Int) = 0 by omega), if_neg (show ¬ N 100 8 < x by rw [← hT.1]; omega)]
  obtain ⟨m, em⟩ : ∃ m : Nat, n = m := ⟨n.toNat, by omega⟩
  obtain ⟨y, ey⟩ : ∃ y : Nat, x = y := ⟨x.toNat, by omega⟩
  subst em
  subst ey
  have h2 := rl_tk h y
  have hX0 := txX_tk hT (show (y : Int) ≤ M 29 1 by omega)
  have hb := hT.2.2.2
  generalize tk M y = M1 at h2 hX0
  rw [m_Mod_beginsText_eq, bM_eq, bM_eq, bM_eq, bM_eq, bV_some, bM_eq, bM_eq, m_Cabinet_readFrom_eq, bM_eq, bM_eq]
  obtain ⟨M2, f1, f2, f3⟩ := Arrays_fill (M := pz_wr (pz_wr M1 32 3 (m : Int)) 32 2 0) (k := 34) rfl (by decide) (-1)
  have f2' : ∀ i, i < 72 → M2 34 i = -1 := f2
  have f3' : ∀ c i, c ≠ 34 → M2 c i = pz_wr (pz_wr M1 32 3 (m : Int)) 32 2 0 c i := fun c i z => f3 c i (fun q => z q.1)
  rw [f1, bV_some]
  have hX : txX M2 0 y (M 30) := by
    obtain ⟨b1, b2, b3, b4, b5⟩ := hX0
    refine ⟨by rw [f3' _ _ (by decide), wr_cell (by decide), wr_cell (by decide)]; exact b1, by rw [f3' _ _ (by decide), wr_cell (by decide), wr_cell (by decide)]; exact b2, b3, b4, fun i hi => ?_⟩
    rw [f3' _ _ (by decide), wr_cell (by decide), wr_cell (by decide)]
    exact b5 i hi
  have kx : kX M1 M2 := by
    intro c i q
    have hc : c ≠ 34 := by
      intro z
      rw [z] at q
      exact Bool.noConfusion q
    rw [f3' c i hc]
    exact (((kX.rf M1).wr rfl).wr rfl) c i q
  have e1 : pz_wr (pz_wr (pz_wr (pz_wr (pz_wr (pz_wr N 100 9 0) 100 10 (y : Int)) 100 14 0) 100 16 0) 100 44 (m : Int)) 100 37 0 100 9 = 0 := by rw [wr_idx (by decide), wr_idx (by decide), wr_idx (by decide), wr_idx (by decide), wr_idx (by decide), wr_same]
  have e2 : pz_wr (pz_wr (pz_wr (pz_wr (pz_wr (pz_wr N 100 9 0) 100 10 (y : Int)) 100 14 0) 100 16 0) 100 44 (m : Int)) 100 37 0 100 10 = y := by rw [wr_idx (by decide), wr_idx (by decide), wr_idx (by decide), wr_idx (by decide), wr_same]
  have e3 : pz_wr (pz_wr (pz_wr (pz_wr (pz_wr (pz_wr N 100 9 0) 100 10 (y : Int)) 100 14 0) 100 16 0) 100 44 (m : Int)) 100 37 0 100 37 = 0 := wr_same
  have e4 : pz_wr (pz_wr (pz_wr (pz_wr (pz_wr (pz_wr N 100 9 0) 100 10 (y : Int)) 100 14 0) 100 16 0) 100 44 (m : Int)) 100 37 0 100 44 = m := by rw [wr_idx (by decide), wr_same]
  have e5 : ∀ i, pz_wr (pz_wr (pz_wr (pz_wr (pz_wr (pz_wr N 100 9 0) 100 10 (y : Int)) 100 14 0) 100 16 0) 100 44 (m : Int)) 100 37 0 107 i = N 107 i := fun i => by rw [wr_cell (by decide), wr_cell (by decide), wr_cell (by decide), wr_cell (by decide), wr_cell (by decide), wr_cell (by decide)]
  have ky : kY N (pz_wr (pz_wr (pz_wr (pz_wr (pz_wr (pz_wr N 100 9 0) 100 10 (y : Int)) 100 14 0) 100 16 0) 100 44 (m : Int)) 100 37 0) := ((((((kY.rf N).wr rfl).wr rfl).wr rfl).wr rfl).wr rfl).wr rfl
  generalize pz_wr (pz_wr (pz_wr (pz_wr (pz_wr (pz_wr N 100 9 0) 100 10 (y : Int)) 100 14 0) 100 16 0) 100 44 (m : Int)) 100 37 0 = N2 at e1 e2 e3 e4 e5 ky
  have hN : txY N2 0 y (M 30) := by
    refine ⟨e1, e2, by omega, by omega, fun i hi => ?_⟩
    rw [e5 i]
    have := hb i hi
    exact ⟨this.1, this.2.1, this.2.2.symm⟩
  have hI : rdB M2 N2 m 0 := by
    refine ⟨by rw [f3' _ _ (by decide), wr_same]; rfl, e3, by rw [f3' _ _ (by decide), wr_idx (by decide), wr_same], e4, by omega, by omega, by omega, fun k hk => by omega, fun k c hk => by omega, fun k c d hk => by omega, fun i _ hi => f2' i hi⟩
  have h3 : ∀ M' N', kX M2 M' → kY N2 N' → rl M' (pz_wr N' 100 8 0) := fun M' N' k1 k2 => rl_keep h2 (kx.tr k1) (kY_8 (ky.tr k2) 0)
  rcases bl_loop (w := w) (u1 := pzI (m : Int)) (u2 := pzI (y : Int)) 12 0 M2 N2 0 (pzI (m : Int)) (by omega) hX hN hI with ⟨M', N', g1, g2, g3, g4, g5⟩ | ⟨M', N', l', g1, g2, g3, g4, g5, g6⟩
  · rw [show m_Cabinet_readFrom_20 (pzI (m : Int)) 0 M2 = some (some (pzI 0), M') from g1, bI_some, if_pos rfl, g2, m_Mod_ballots_115_eq, bM_eq, if_pos rfl, wr_idx (by decide), ← g3]
    exact ⟨_, M', _, rfl, rfl, h3 M' N' g4 g5⟩
  · rw [show m_Cabinet_readFrom_20 (pzI (m : Int)) 0 M2 = some (some (pzI 1), M') from g1, bI_some, if_neg (show ¬ (1 : Int) = 0 by omega), g2, m_Mod_ballots_115_eq, bM_eq, if_neg (show ¬ (1 : Int) = 0 by omega), m_Cabinet_answer_eq]
    have hR := h3 M' N' g5 g6
    have B : blt M' (pz_wr N' 100 8 0) m l' (M' 33) (fun l c => M' 34 (6 * l + c)) := by
      obtain ⟨a1, a2, a3, a4, a5, a6, a7, a8, a9, a10, a11⟩ := g3
      refine ⟨a1, by rw [wr_idx (by decide)]; exact a2, a3, by rw [wr_idx (by decide)]; exact a4, a5, a6, a7, fun l hl => ?_, fun l c hl hc => ?_, fun l c d hl hc hd => a10 l c d hl hc hd⟩
      · rw [wr_cell (by decide)]
        have := a8 l hl
        exact ⟨rfl, this.1, this.2⟩
      · rw [wr_cell (by decide)]
        exact ⟨rfl, a9 l c hl hc⟩
    generalize pz_wr N' 100 8 0 = N3 at hR B
    have done : ∀ {a b : Option pz_A}, (∃ r, a = some (some (pzI r), M') ∧ b = some (some (pzI r), N3)) → agree (bI (bI a fun r K => some (some (pzI r), K)) fun r K => some (some (pzI r), K)) (bI b fun r K => some (some (pzI r), K)) := by
      intro a b z
      obtain ⟨r, z1, z2⟩ := z
      rw [z1, z2, bI_some, bI_some, bI_some]
      exact agree_same hR r rfl rfl
    by_cases c0 : w = 100
    · rw [if_pos c0, if_pos c0]; exact done ⟨_, Cab_all B⟩
    rw [if_neg c0, if_neg c0]
    by_cases c1 : w = 101
    · rw [if_pos c1, if_pos c1]; exact done (Cab_byFirst B)
    rw [if_neg c1, if_neg c1]
    by_cases c2 : w = 102
    · rw [if_pos c2, if_pos c2]; exact done (Cab_byPoints B)
    rw [if_neg c2, if_neg c2]
    by_cases c3 : w = 103
    · rw [if_pos c3, if_pos c3]; exact done (Cab_byTwos B)
    rw [if_neg c3, if_neg c3]
    by_cases c4 : w = 104
    · rw [if_pos c4, if_pos c4]; exact done (Cab_byRounds g4 B)
    rw [if_neg c4, if_neg c4, Cab_isMin B.2.2.1 B.2.2.2.2.2.1, bI_some, b01_ite, if_pos (show 0 ≤ w ∧ w ≤ (m : Int) - 1 by omega)]
    have := Cab_points B (m := w) (by omega) (by omega)
    obtain ⟨r, z1, z2⟩ := this
    rw [z1, z2, bI_some, bI_some, bI_some]
    exact agree_same hR r rfl rfl
