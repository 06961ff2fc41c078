/-! what both read on the tape -/
def hr (p e : Nat) (b : Nat → Int) : Int := if p < e then b p else -1
def txX (M : pz_M) (p e : Nat) (b : Nat → Int) : Prop := M 29 2 = p ∧ M 29 3 = e ∧ p ≤ e ∧ e ≤ 260 ∧ ∀ i, i < 260 → M 30 i = b i ∧ 0 ≤ b i ∧ b i ≤ 255
def txY (N : pz_M) (p e : Nat) (b : Nat → Int) : Prop := N 100 9 = p ∧ N 100 10 = e ∧ p ≤ e ∧ e ≤ 260 ∧ ∀ i, i < 260 → -128 ≤ N 107 i ∧ N 107 i ≤ 127 ∧ N 107 i % 256 = b i
theorem txX.wr {M : pz_M} {p e : Nat} {b : Nat → Int} (h : txX M p e b) {k j : Nat} {x : Int} (h1 : k ≠ 30) (h2 : k ≠ 29 ∨ (j ≠ 2 ∧ j ≠ 3)) : txX (pz_wr M k j x) p e b := by
  have e1 : ∀ i, (i = 2 ∨ i = 3) → pz_wr M k j x 29 i = M 29 i := by
    intro i hi
    unfold pz_wr
    rw [if_neg (by omega)]
  obtain ⟨a1, a2, a3, a4, a5⟩ := h
  refine ⟨by rw [e1 2 (by omega)]; exact a1, by rw [e1 3 (by omega)]; exact a2, a3, a4, fun i hi => ?_⟩
  rw [wr_cell (fun z => h1 z.symm)]
  exact a5 i hi
theorem txY.wr {N : pz_M} {p e : Nat} {b : Nat → Int} (h : txY N p e b) {k j : Nat} {x : Int} (h1 : k ≠ 107) (h2 : k ≠ 100 ∨ (j ≠ 9 ∧ j ≠ 10)) : txY (pz_wr N k j x) p e b := by
  have e1 : ∀ i, (i = 9 ∨ i = 10) → pz_wr N k j x 100 i = N 100 i := by
    intro i hi
    unfold pz_wr
    rw [if_neg (by omega)]
  obtain ⟨a1, a2, a3, a4, a5⟩ := h
  refine ⟨by rw [e1 9 (by omega)]; exact a1, by rw [e1 10 (by omega)]; exact a2, a3, a4, fun i hi => ?_⟩
  rw [wr_cell (fun z => h1 z.symm)]
  exact a5 i hi
theorem txX.st {M : pz_M} {p e : Nat} {b : Nat → Int} (h : txX M p e b) (hp : p < e) : txX (pz_wr M 29 2 ((p : Int) + 1)) (p + 1) e b := by
  obtain ⟨a1, a2, a3, a4, a5⟩ := h
  refine ⟨by rw [wr_same]; rfl, by rw [wr_idx (by decide)]; exact a2, by omega, a4, fun i hi => ?_⟩
  rw [wr_cell (by decide)]
  exact a5 i hi
theorem txY.st {N : pz_M} {p e : Nat} {b : Nat → Int} (h : txY N p e b) (hp : p < e) : txY (pz_wr N 100 9 ((p : Int) + 1)) (p + 1) e b := by
  obtain ⟨a1, a2, a3, a4, a5⟩ := h
  refine ⟨by rw [wr_same]; rfl, by rw [wr_idx (by decide)]; exact a2, by omega, a4, fun i hi => ?_⟩
  rw [wr_cell (by decide)]
  exact a5 i hi
theorem hr_rg {M : pz_M} {p e : Nat} {b : Nat → Int} (h : txX M p e b) : -1 ≤ hr p e b ∧ hr p e b ≤ 255 := by
  unfold hr
  split
  · have := (h.2.2.2.2 p (by have := h.2.2.2.1; omega)).2
    omega
  · omega
theorem hr_lt {p e : Nat} {b : Nat → Int} (h : 0 ≤ hr p e b) : p < e := by
  unfold hr at h
  by_cases c : p < e
  · exact c
  · rw [if_neg c] at h; omega
theorem Tape_peek {M : pz_M} {p e : Nat} {b : Nat → Int} (h : txX M p e b) : m_Tape_peek M = some (some (pzI (hr p e b)), M) := by
  obtain ⟨a1, a2, a3, a4, a5⟩ := h
  rw [m_Tape_peek_eq, a1, a2, if_neg (show ¬ (p : Int) < 0 by omega)]
  unfold hr
  by_cases c : p < e
  · rw [if_pos c, if_pos (show (p : Int) < e by omega), if_pos (show (p : Int) < 260 by omega), grd_pos (by omega), show ((p : Nat) : Int).toNat = p from rfl, (a5 p (by omega)).1]
  · rw [if_neg c, if_neg (show ¬ (p : Int) < e by omega)]
theorem Mod_here {N : pz_M} {p e : Nat} {b : Nat → Int} (h : txY N p e b) : m_Mod_here N = some (some (pzI (hr p e b)), N) := by
  obtain ⟨a1, a2, a3, a4, a5⟩ := h
  rw [m_Mod_here_eq, a1, a2]
  unfold hr
  by_cases c : p < e
  · have := a5 p (by omega)
    rw [if_pos c, if_pos (show (p : Int) < e by omega), grd_pos (by omega), show ((p : Nat) : Int).toNat = p from rfl, oct this.1 this.2.1, this.2.2]
  · rw [if_neg c, if_neg (show ¬ (p : Int) < e by omega)]
abbrev dg (x : Int) : Prop := 48 ≤ x ∧ x ≤ 57
theorem Tape_isDigit {M : pz_M} {p e : Nat} {b : Nat → Int} (h : txX M p e b) : m_Tape_isDigit M = some (some (pzI (b01 (dg (hr p e b)))), M) := by
  rw [m_Tape_isDigit_eq, Tape_peek h, bI_some]
  by_cases c : hr p e b < 48
  · rw [if_pos c, b01_f (fun z => by unfold dg at z; omega)]
  · rw [if_neg c]
    by_cases d : 57 < hr p e b
    · rw [if_pos d, b01_f (fun z => by unfold dg at z; omega)]
    · rw [if_neg d, b01_t (by unfold dg; omega)]
theorem Mod_isDigit {N : pz_M} {p e : Nat} {b : Nat → Int} (h : txY N p e b) : m_Mod_isDigit N = some (some (pzI (b01 (dg (hr p e b)))), N) := by
  rw [m_Mod_isDigit_eq, Mod_here h, bI_some]
  by_cases c : hr p e b < 48
  · rw [if_pos c, b01_f (fun z => by unfold dg at z; omega)]
  · rw [if_neg c, Mod_here h, bI_some]
    by_cases d : 57 < hr p e b
    · rw [if_pos d, b01_f (fun z => by unfold dg at z; omega)]
    · rw [if_neg d, b01_t (by unfold dg; omega)]
theorem Tape_step {M : pz_M} {p e : Nat} {b : Nat → Int} (h : txX M p e b) : m_Tape_step M = some (none, pz_wr M 29 2 ((p : Int) + 1)) := by
  have := h.2.2
  rw [m_Tape_step_eq, h.1, bM_eq, ia_eq (by omega) (by omega)]
/-- what reading alone leaves as it was -/
def fX (M M' : pz_M) : Prop := ∀ c i, (c ≠ 29 ∨ (i ≠ 2 ∧ i ≠ 4)) → M' c i = M c i
def fY (N N' : pz_M) : Prop := ∀ c i, (c ≠ 100 ∨ (i ≠ 9 ∧ i ≠ 11 ∧ i ≠ 12)) → N' c i = N c i
theorem fX.rf (M : pz_M) : fX M M := fun _ _ _ => rfl
theorem fY.rf (M : pz_M) : fY M M := fun _ _ _ => rfl
theorem fX.tr {M M1 M2 : pz_M} (h : fX M M1) (h2 : fX M1 M2) : fX M M2 := fun c i q => (h2 c i q).trans (h c i q)
theorem fY.tr {M M1 M2 : pz_M} (h : fY M M1) (h2 : fY M1 M2) : fY M M2 := fun c i q => (h2 c i q).trans (h c i q)
theorem fX.wr {M M1 : pz_M} {j : Nat} {x : Int} (h : fX M M1) (hj : j = 2 ∨ j = 4) : fX M (pz_wr M1 29 j x) := by
  intro c i q
  unfold pz_wr
  rw [if_neg (by omega)]
  exact h c i q
theorem fY.wr {M M1 : pz_M} {j : Nat} {x : Int} (h : fY M M1) (hj : j = 9 ∨ j = 11 ∨ j = 12) : fY M (pz_wr M1 100 j x) := by
  intro c i q
  unfold pz_wr
  rw [if_neg (by omega)]
  exact h c i q
theorem fX.k {M M' : pz_M} (h : fX M M') : kX M M' := fun c i q => h c i (by
  unfold cX at q
  simp only [Bool.or_eq_true, Bool.and_eq_true, decide_eq_true_eq] at q
  omega)
theorem fY.k {M M' : pz_M} (h : fY M M') : kY M M' := fun c i q => h c i (by
  unfold cY at q
  simp only [Bool.or_eq_true, Bool.and_eq_true, decide_eq_true_eq] at q
  omega)
/-- both found a fault, and the same -/
def flt (M N M' N' : pz_M) : Prop := M' 29 4 = N' 100 11 ∧ fX M M' ∧ fY N N'
theorem flt_at {M N M' N' : pz_M} (hX : fX M M') (hY : fY N N') (f : Int) : flt M N (pz_wr M' 29 4 f) (pz_wr N' 100 11 f) := ⟨by rw [wr_same, wr_same], hX.wr (Or.inr rfl), hY.wr (Or.inr (Or.inl rfl))⟩
theorem num_L {k s e : Nat} {b : Nat → Int} (hk : k ≤ 5) {LY : pz_M → Option pz_A} (hY : ∀ N, LY N = bI (m_Mod_isDigit N) fun r2 M1 => if r2 = 0 then some (some (pzI 1), M1) else (if (M1 100 9) = (ia (s : Int) (k : Int)) then (bI (m_Mod_wrongAt 2 (M1 100 9) M1) fun r4 M3 => grd (r4 = 0 ∨ r4 = 1) (some (some (pzI r4), M3))) else (bI (m_Mod_here M1) fun r6 M5 => bM (pz_wr M5 100 12 (isb (ia (imu 10 (M1 100 12)) r6) 48)) fun M7 => bM (pz_wr M7 100 9 (ia (M7 100 9) 1)) fun M8 => LY M8))) : ∀ (j c : Nat) (M N : pz_M) (p : Nat) (v : Int) (w : pz_V), c + j = k → p = s + c → txX M p e b → txY N p e b → N 100 12 = v → 0 ≤ v → v < ((10 ^ c : Nat) : Int) → (0 < c ∨ dg (hr p e b)) → (∃ M' N', m_Tape_readNumber_4 (k : Int) v (c : Int) w M = some (some (pzI (-1)), M') ∧ LY N = some (some (pzI 0), N') ∧ flt M N M' N') ∨ (∃ M' N' p' v', m_Tape_readNumber_4 (k : Int) v (c : Int) w M = some (some (pzI v'), M') ∧ LY N = some (some (pzI 1), N') ∧ N' 100 12 = v' ∧ 0 ≤ v' ∧ v' < ((10 ^ k : Nat) : Int) ∧ txX M' p' e b ∧ txY N' p' e b ∧ p ≤ p' ∧ (c = 0 → p < p') ∧ fX M M' ∧ fY N N') := by
  intro j
  induction j with
  | zero =>
    intro c M N p v w hc hp hX hN h12 v0 v1 hd
    have e1 := hX.2.2
    have ec : c = k := by omega
    subst ec
    rw [m_Tape_readNumber_4_eq, if_neg (show ¬ (c : Int) < c by omega), Tape_peek hX, bI_some, Tape_peek hX, bI_some, hY, Mod_isDigit hN, bI_some, b01_ite]
    by_cases d : dg (hr p e b)
    · have d' := d
      unfold dg at d'
      left
      rw [if_neg (show ¬ hr p e b < 48 by omega), if_neg (show ¬ 57 < hr p e b by omega), if_pos d, hN.1, ia_eq (by omega) (by omega), if_pos (show (p : Int) = s + c by omega), m_Mod_wrongAt_eq, bM_eq, bI_some, grd_pos (by omega), m_Tape_fail_eq, bM_eq, bI_some, hX.1]
      exact ⟨_, _, rfl, rfl, flt_at (fX.rf M) (fY.rf N) _⟩
    · right
      refine ⟨M, N, p, v, ?_, by rw [if_neg d], h12, v0, v1, hX, hN, by omega, ?_, fX.rf M, fY.rf N⟩
      · by_cases d1 : hr p e b < 48
        · rw [if_pos d1]
        · rw [if_neg d1, if_pos (show 57 < hr p e b by unfold dg at d; omega)]
      · intro z
        rcases hd with h | h
        · omega
        · exact absurd h d
  | succ j ih =>
    intro c M N p v w hc hp hX hN h12 v0 v1 hd
    have e1 := hX.2.2
    rw [m_Tape_readNumber_4_eq, if_pos (show (c : Int) < k by omega), Tape_peek hX, bI_some, hY, Mod_isDigit hN, bI_some, b01_ite]
    by_cases d : dg (hr p e b)
    · have d' := d
      unfold dg at d'
      have hpe := hr_lt (show 0 ≤ hr p e b by omega)
      have hp10 : (10 ^ c : Nat) ≤ 10 ^ 4 := Nat.pow_le_pow_right (by omega) (by omega)
      have hps : (10 ^ (c + 1) : Nat) = 10 ^ c * 10 := Nat.pow_succ _ _
      rw [if_neg (show ¬ hr p e b < 48 by omega), if_neg (show ¬ 57 < hr p e b by omega), Tape_step hX, bV_some, if_pos d, hN.1, ia_eq (x := (s : Int)) (by omega) (by omega), if_neg (show ¬ (p : Int) = s + k by omega), Mod_here hN, bI_some, h12, bM_eq, bM_eq, wr_idx (i := 12) (j := 9) (by decide), hN.1, ia_eq (x := (p : Int)) (by omega) (by omega), ia_eq (x := (c : Int)) (by omega) (by omega)]
      have ev1 : isb (ia (imu v 10) (hr p e b)) 48 = v * 10 + hr p e b - 48 := by rw [imu_eq (by omega) (by omega), ia_eq (by omega) (by omega), isb_eq (by omega) (by omega)]
      have ev2 : isb (ia (imu 10 v) (hr p e b)) 48 = v * 10 + hr p e b - 48 := by rw [imu_eq (by omega) (by omega), ia_eq (by omega) (by omega), isb_eq (by omega) (by omega)]; omega
      rw [ev1, ev2]
      have hX2 := hX.st hpe
      have hN2 := (hN.wr (k := 100) (j := 12) (x := v * 10 + hr p e b - 48) (by decide) (by decide)).st hpe
      have r := ih (c + 1) _ _ (p + 1) (v * 10 + hr p e b - 48) (pzI (hr p e b)) (by omega) (by omega) hX2 hN2 (by rw [wr_idx (by decide), wr_same]) (by omega) (by omega) (Or.inl (by omega))
      rcases r with ⟨M', N', g1, g2, g3⟩ | ⟨M', N', p', v', g1, g2, g3, g4, g5, g6, g7, g8, g9, g10, g11⟩
      · left
        exact ⟨M', N', g1, g2, g3.1, ((fX.rf M).wr (Or.inl rfl)).tr g3.2.1, (((fY.rf N).wr (Or.inr (Or.inr rfl))).wr (Or.inl rfl)).tr g3.2.2⟩
      · right
        exact ⟨M', N', p', v', g1, g2, g3, g4, g5, g6, g7, by omega, fun _ => by omega, ((fX.rf M).wr (Or.inl rfl)).tr g10, (((fY.rf N).wr (Or.inr (Or.inr rfl))).wr (Or.inl rfl)).tr g11⟩
    · right
      have hc0 : 0 < c := hd.elim id (fun h => absurd h d)
      have hpk : (10 ^ c : Nat) ≤ 10 ^ k := Nat.pow_le_pow_right (by omega) (by omega)
      have ex : m_Tape_readNumber_29 (pzI (k : Int)) v (c : Int) (pzI (hr p e b)) M = some (some (pzI v), M) := by rw [m_Tape_readNumber_29_eq, if_pos (by omega)]
      refine ⟨M, N, p, v, ?_, by rw [if_neg d], h12, v0, by omega, hX, hN, by omega, by omega, fX.rf M, fY.rf N⟩
      by_cases d1 : hr p e b < 48
      · rw [if_pos d1]; exact ex
      · rw [if_neg d1, if_pos (show 57 < hr p e b by unfold dg at d; omega)]; exact ex
/-- a number of at most k digits: the desk's reading, the reference's -/
def numb (k : Nat) (a b : Option pz_A) (M N : pz_M) (p e : Nat) (t : Nat → Int) : Prop := (∃ M' N', a = some (some (pzI (-1)), M') ∧ b = some (some (pzI 0), N') ∧ flt M N M' N') ∨ (∃ M' N' p' v', a = some (some (pzI v'), M') ∧ b = some (some (pzI 1), N') ∧ N' 100 12 = v' ∧ 0 ≤ v' ∧ v' < ((10 ^ k : Nat) : Int) ∧ txX M' p' e t ∧ txY N' p' e t ∧ p < p' ∧ fX M M' ∧ fY N N')
theorem num_ok {k e p : Nat} {t : Nat → Int} {M N : pz_M} (hk : k ≤ 5) (hX : txX M p e t) (hN : txY N p e t) (d : dg (hr p e t)) {LY : pz_M → Option pz_A} (hY : ∀ N, LY N = bI (m_Mod_isDigit N) fun r2 M1 => if r2 = 0 then some (some (pzI 1), M1) else (if (M1 100 9) = (ia (p : Int) (k : Int)) then (bI (m_Mod_wrongAt 2 (M1 100 9) M1) fun r4 M3 => grd (r4 = 0 ∨ r4 = 1) (some (some (pzI r4), M3))) else (bI (m_Mod_here M1) fun r6 M5 => bM (pz_wr M5 100 12 (isb (ia (imu 10 (M1 100 12)) r6) 48)) fun M7 => bM (pz_wr M7 100 9 (ia (M7 100 9) 1)) fun M8 => LY M8))) : numb k (m_Tape_readNumber (k : Int) M) (LY (pz_wr N 100 12 0)) M N p e t := by
  rcases num_L hk hY k 0 M (pz_wr N 100 12 0) p 0 pzN (by omega) (by omega) hX (hN.wr (by decide) (by decide)) wr_same (by omega) (by decide) (Or.inr d) with ⟨M', N', g1, g2, g3⟩ | ⟨M', N', p', v', g1, g2, g3, g4, g5, g6, g7, g8, g9, g10, g11⟩
  · exact Or.inl ⟨M', N', by rw [m_Tape_readNumber_eq]; exact g1, g2, g3.1, g3.2.1, ((fY.rf N).wr (Or.inr (Or.inr rfl))).tr g3.2.2⟩
  · exact Or.inr ⟨M', N', p', v', by rw [m_Tape_readNumber_eq]; exact g1, g2, g3, g4, g5, g6, g7, g9 rfl, g10, ((fY.rf N).wr (Or.inr (Or.inr rfl))).tr g11⟩
theorem num_5 {e p : Nat} {t : Nat → Int} {M N : pz_M} (hX : txX M p e t) (hN : txY N p e t) (d : dg (hr p e t)) : numb 5 (m_Tape_readNumber 5 M) (m_Mod_readsNumber N) M N p e t := by
  rw [m_Mod_readsNumber_eq, bM_eq, hN.1]
  exact num_ok (k := 5) (LY := m_Mod_readsNumber_10 (p : Int)) (by omega) hX hN d (fun N => m_Mod_readsNumber_10_eq _ N)
theorem num_2 {e p : Nat} {t : Nat → Int} {M N : pz_M} (hX : txX M p e t) (hN : txY N p e t) (d : dg (hr p e t)) : numb 2 (m_Tape_readNumber 2 M) (m_Mod_readsAmount N) M N p e t := by
  rw [m_Mod_readsAmount_eq, Mod_isDigit hN, bI_some, b01_ite, if_pos d, bM_eq, hN.1]
  exact num_ok (k := 2) (LY := m_Mod_readsAmount_27 (p : Int)) (by omega) hX hN d (fun N => m_Mod_readsAmount_27_eq _ N)
/-- a sign that must stand here -/
def sgn (x : Int) (a b : Option pz_A) (M N : pz_M) (p e : Nat) (t : Nat → Int) : Prop := (hr p e t ≠ x ∧ ∃ M' N', a = some (some (pzI 0), M') ∧ b = some (some (pzI 0), N') ∧ flt M N M' N') ∨ (hr p e t = x ∧ ∃ M' N', a = some (some (pzI 1), M') ∧ b = some (some (pzI 1), N') ∧ txX M' (p + 1) e t ∧ txY N' (p + 1) e t ∧ p < e ∧ fX M M' ∧ fY N N')
theorem sgn_ok {x : Int} (x0 : 0 ≤ x) {e p : Nat} {t : Nat → Int} {M N : pz_M} (hX : txX M p e t) (hN : txY N p e t) : sgn x (m_Tape_pass x M) (m_Mod_takes x N) M N p e t := by
  have e1 := hX.2.2
  rw [m_Tape_pass_eq, m_Mod_takes_eq, Tape_peek hX, bI_some, Mod_here hN, bI_some]
  by_cases c : hr p e t = x
  · have hpe := hr_lt (show 0 ≤ hr p e t by omega)
    right
    rw [if_pos c, if_pos c, Tape_step hX, bV_some, hN.1, ia_eq (by omega) (by omega), bM_eq]
    exact ⟨c, _, _, rfl, rfl, hX.st hpe, hN.st hpe, hpe, (fX.rf M).wr (Or.inl rfl), (fY.rf N).wr (Or.inl rfl)⟩
  · left
    rw [if_neg c, if_neg c, m_Tape_fail_eq, bM_eq, bI_some, grd_pos (by omega), m_Mod_wrongAt_eq, bM_eq, bI_some, grd_pos (by omega), hX.1, hN.1]
    exact ⟨c, _, _, rfl, rfl, flt_at (fX.rf M) (fY.rf N) _⟩
