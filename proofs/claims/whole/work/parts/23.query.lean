/-! ===== questions: both answer alike ===== -/
theorem pl_9 {p s b : Int} (h : rl_pl p s b) : p = 9 ↔ s = 0 := by unfold rl_pl at h; omega
theorem pl_10 {p s b : Int} (h : rl_pl p s b) : p = 10 ↔ s = 2 := by unfold rl_pl at h; omega
theorem pl_at {p s b q : Int} (h : rl_pl p s b) (h0 : 0 ≤ q) (h8 : q ≤ 8) : p = q ↔ s = 1 ∧ b = q := by unfold rl_pl at h; omega
theorem pl_rg {p s b : Int} (h : rl_pl p s b) : 0 ≤ p ∧ p ≤ 10 := by unfold rl_pl at h; omega
theorem pl_st {p s b : Int} (h : rl_pl p s b) : (0 ≤ p ∧ p ≤ 8) ↔ s = 1 := by unfold rl_pl at h; omega
theorem msk_pl {M N : pz_M} {k w n : Nat} (h : rl_ter M N k w n) {q : Int} (h0 : 0 ≤ q) (h8 : q ≤ 8) : mskN (fun c => decide (M (k + 1) c = q)) n = mskN (fun c => decide (N w c = 1 ∧ N w (24 + c) = q)) n := mskN_congr n (fun c hc => decide_eq_decide.mpr (pl_at (h.1 c hc).1 h0 h8))
theorem cnt_pl {M N : pz_M} {k w n : Nat} (h : rl_ter M N k w n) {q : Int} (h0 : 0 ≤ q) (h8 : q ≤ 8) : cntI (M (k + 1)) q n = cntB (fun c => decide (N w c = 1 ∧ N w (24 + c) = q)) n := by
  rw [cntI_cntB]
  exact cntB_congr n (fun c hc => decide_eq_decide.mpr (pl_at (h.1 c hc).1 h0 h8))
theorem msk_9 {M N : pz_M} {k w n : Nat} (h : rl_ter M N k w n) : mskN (fun c => decide (M (k + 1) c = 9)) n = mskN (fun c => decide (N w c = 0)) n := mskN_congr n (fun c hc => decide_eq_decide.mpr (pl_9 (h.1 c hc).1))
theorem msk_10 {M N : pz_M} {k w n : Nat} (h : rl_ter M N k w n) : mskN (fun c => decide (M (k + 1) c = 10)) n = mskN (fun c => decide (N w c = 2)) n := mskN_congr n (fun c hc => decide_eq_decide.mpr (pl_10 (h.1 c hc).1))
/-! sums -/
def sumI (f : Nat → Int) : Nat → Int
  | 0 => 0
  | n + 1 => sumI f n + f n
theorem sumI_congr {f g : Nat → Int} : ∀ n, (∀ c, c < n → f c = g c) → sumI f n = sumI g n := by
  intro n
  induction n with
  | zero => intro _; rfl
  | succ n ih => intro h; unfold sumI; rw [ih (fun c hc => h c (by omega)), h n (by omega)]
theorem sumI_rg {f : Nat → Int} {B : Int} : ∀ n, (∀ c, c < n → 0 ≤ f c ∧ f c ≤ B) → 0 ≤ sumI f n ∧ sumI f n ≤ n * B := by
  intro n
  induction n with
  | zero => intro _; exact ⟨Int.le_refl _, by simp [sumI]⟩
  | succ n ih =>
    intro h
    have h1 := ih (fun c hc => h c (by omega))
    have h2 := h n (by omega)
    unfold sumI
    have e : ((n + 1 : Nat) : Int) * B = n * B + B := by rw [Int.natCast_succ, Int.add_mul, Int.one_mul]
    rw [e]
    omega
theorem sumI_at {f : Nat → Int} {x : Int} (h : 0 ≤ x) : sumI f (x + 1).toNat = sumI f x.toNat + f x.toNat := by rw [show (x + 1).toNat = x.toNat + 1 by omega]; rfl
theorem Ter_cries {M : pz_M} {k : Nat} (hk : pz_cls k = 9) (hb : ∀ p, p < 9 → 0 ≤ M (k + 3) p ∧ M (k + 3) p ≤ 9999) : m_Terrace_criesOfAll k M = some (some (pzI (sumI (M (k + 3)) 9)), M) := by
  have L : ∀ (j : Nat) (x : Int), 0 ≤ x → x + j = 9 → m_Terrace_criesOfAll_4 k (sumI (M (k + 3)) x.toNat) x M = some (some (pzI (sumI (M (k + 3)) 9)), M) := by
    intro j
    induction j with
    | zero => intro x h0 hj; rw [m_Terrace_criesOfAll_4_eq _ _ _ _ hk, if_neg (by omega), show x.toNat = 9 by omega]
    | succ j ih =>
      intro x h0 hj
      have hs := sumI_rg (f := M (k + 3)) (B := 9999) x.toNat (fun c hc => hb c (by omega))
      have hv := hb x.toNat (by omega)
      rw [m_Terrace_criesOfAll_4_eq _ _ _ _ hk, if_pos (by omega), grd_pos (by omega), ia_eq (by omega) (by omega), ia_eq (by omega) (by omega), ← sumI_at h0]
      exact ih (x + 1) (by omega) (by omega)
  rw [m_Terrace_criesOfAll_eq _ _ hk]
  exact L 9 0 (by omega) (by omega)
theorem Mod_cries {N : pz_M} (hb : ∀ p, p < 9 → 0 ≤ N 101 (72 + p) ∧ N 101 (72 + p) ≤ 9999) : m_Mod_criesOfAll N = some (some (pzI (sumI (fun p => N 101 (72 + p)) 9)), N) := by
  have L : ∀ (j : Nat) (x : Int), 0 ≤ x → x + j = 9 → m_Mod_criesOfAll_4 (sumI (fun p => N 101 (72 + p)) x.toNat) x N = some (some (pzI (sumI (fun p => N 101 (72 + p)) 9)), N) := by
    intro j
    induction j with
    | zero => intro x h0 hj; rw [m_Mod_criesOfAll_4_eq, if_neg (by omega), show x.toNat = 9 by omega]
    | succ j ih =>
      intro x h0 hj
      have hs := sumI_rg (f := fun p => N 101 (72 + p)) (B := 9999) x.toNat (fun c hc => hb c (by omega))
      have hv := hb x.toNat (by omega)
      have e1 : (72 + x).toNat = 72 + x.toNat := by omega
      rw [m_Mod_criesOfAll_4_eq, if_pos (by omega), ia_eq (x := 72) (by omega) (by omega), grd_pos (by omega), e1, ia_eq (x := x) (by omega) (by omega), ia_eq (by omega) (by omega)]
      have e := sumI_at (f := fun p => N 101 (72 + p)) h0
      rw [← e]
      exact ih (x + 1) (by omega) (by omega)
  rw [m_Mod_criesOfAll_eq]
  exact L 9 0 (by omega) (by omega)
/-- the first of the greatest -/
def fom (f : Nat → Int) : Nat → Nat
  | 0 => 0
  | n + 1 => if f (fom f n) < f n then n else fom f n
theorem fom_lt (f : Nat → Int) : ∀ n, 0 < n → fom f n < n := by
  intro n
  induction n with
  | zero => intro h; omega
  | succ n ih =>
    intro _
    unfold fom
    split
    · omega
    · by_cases hn : 0 < n
      · have := ih hn; omega
      · have : n = 0 := by omega
        subst this
        exact Nat.one_pos
theorem fom_congr {f g : Nat → Int} : ∀ n, (∀ c, c < n → f c = g c) → fom f n = fom g n := by
  intro n
  induction n with
  | zero => intro _; rfl
  | succ n ih =>
    intro h
    have e := ih (fun c hc => h c (by omega))
    unfold fom
    rw [e, h n (by omega)]
    by_cases hn : 0 < n
    · have := fom_lt g n hn
      rw [h (fom g n) (by omega)]
    · have : n = 0 := by omega
      subst this
      rw [h (fom g 0) (by show 0 < 1; omega)]
theorem fom_1 (f : Nat → Int) : fom f 1 = 0 := by
  unfold fom
  split <;> rfl
theorem fom_at {f : Nat → Int} {x : Int} (h : 0 ≤ x) : fom f (x + 1).toNat = if f (fom f x.toNat) < f x.toNat then x.toNat else fom f x.toNat := by rw [show (x + 1).toNat = x.toNat + 1 by omega]; rfl
theorem Rck_fom {M : pz_M} {k n : Nat} (hk : pz_cls k = 20) (hn : n ≤ pz_len k) (h0 : 1 ≤ n) (hl : n ≤ 20000) : m_Reckoner_firstOfMost k (n : Int) M = some (some (pzI ((fom (M k) n : Nat) : Int)), M) := by
  have L : ∀ (j : Nat) (x : Int), 1 ≤ x → x + j = n → m_Reckoner_firstOfMost_4 k (n : Int) ((fom (M k) x.toNat : Nat) : Int) x M = some (some (pzI ((fom (M k) n : Nat) : Int)), M) := by
    intro j
    induction j with
    | zero => intro x h0 hj; rw [m_Reckoner_firstOfMost_4_eq _ _ _ _ _ hk, if_neg (by omega), show x.toNat = n by omega]
    | succ j ih =>
      intro x h0 hj
      have hf := fom_lt (M k) x.toNat (by omega)
      rw [m_Reckoner_firstOfMost_4_eq _ _ _ _ _ hk, if_pos (by omega), if_pos (by omega), grd_pos (by omega), grd_pos (by omega), ia_eq (by omega) (by omega), Int.toNat_natCast]
      have e := fom_at (f := M k) (x := x) (by omega)
      by_cases hc : M k (fom (M k) x.toNat) < M k x.toNat
      · rw [if_pos hc] at e ⊢
        have := ih (x + 1) (by omega) (by omega)
        rw [e, show ((x.toNat : Nat) : Int) = x by omega] at this
        exact this
      · rw [if_neg hc] at e ⊢
        have := ih (x + 1) (by omega) (by omega)
        rw [e] at this
        exact this
  rw [m_Reckoner_firstOfMost_eq _ _ _ hk]
  have := L (n - 1) 1 (by omega) (by omega)
  rw [show (1 : Int).toNat = 1 from rfl, fom_1] at this
  exact this
theorem ag_heard {M N : pz_M} (h : rl M N) (x : Int) : agree (m_Desk_heard x M) (m_Mod_heard x N) := by
  have h' := h
  obtain ⟨-, ⟨kc, n, hc, hs, hl⟩, -, -, -⟩ := h'
  have hcr : ∀ p, p < 9 → M 52 p = N 101 (72 + p) := fun p hp => (hs.2.1 p hp).1
  rw [m_Desk_heard_eq, m_Mod_heard_eq, Mod_in, bI_some, b01_ite]
  by_cases hx : 0 ≤ x ∧ x ≤ 1
  · rw [if_pos hx]
    have L : ∀ (j : Nat) (y : Int), 1 ≤ y → y + j = 9 → m_Mod_heard_15 x ((fom (fun p => N 101 (72 + p)) y.toNat : Nat) : Int) y N = some (some (pzI (if x = 0 then ((fom (fun p => N 101 (72 + p)) 9 : Nat) : Int) else N 101 (72 + fom (fun p => N 101 (72 + p)) 9))), N) := by
      intro j
      induction j with
      | zero =>
        intro y h0 hj
        have hf := fom_lt (fun p => N 101 (72 + p)) y.toNat (by omega)
        rw [m_Mod_heard_15_eq, if_neg (by omega), show y.toNat = 9 by omega]
        rw [show y.toNat = 9 by omega] at hf
        by_cases hx0 : x = 0
        · rw [if_pos hx0, if_pos hx0]
        · rw [if_neg hx0, if_neg hx0, ia_eq (by omega) (by omega), grd_pos (by omega)]
          rw [show (72 + ((fom (fun p => N 101 (72 + p)) 9 : Nat) : Int)).toNat = 72 + fom (fun p => N 101 (72 + p)) 9 by omega]
      | succ j ih =>
        intro y h0 hj
        have hf := fom_lt (fun p => N 101 (72 + p)) y.toNat (by omega)
        have e := fom_at (f := fun p => N 101 (72 + p)) (x := y) (by omega)
        rw [m_Mod_heard_15_eq, if_pos (by omega), ia_eq (x := 72) (y := y) (by omega) (by omega), grd_pos (by omega), ia_eq (x := 72) (by omega) (by omega), grd_pos (by omega), ia_eq (x := y) (by omega) (by omega), show (72 + y).toNat = 72 + y.toNat by omega, show (72 + ((fom (fun p => N 101 (72 + p)) y.toNat : Nat) : Int)).toNat = 72 + fom (fun p => N 101 (72 + p)) y.toNat by omega]
        by_cases hcc : N 101 (72 + fom (fun p => N 101 (72 + p)) y.toNat) < N 101 (72 + y.toNat)
        · rw [if_pos hcc] at e ⊢
          have := ih (y + 1) (by omega) (by omega)
          rw [e, show ((y.toNat : Nat) : Int) = y by omega] at this
          exact this
        · rw [if_neg hcc] at e ⊢
          have := ih (y + 1) (by omega) (by omega)
          rw [e] at this
          exact this
    have eY := L 8 1 (by omega) (by omega)
    rw [show (1 : Int).toNat = 1 from rfl, fom_1] at eY
    have eX : m_Desk_heard_11 x pzN M = some (some (pzI (if x = 0 then ((fom (fun p => N 101 (72 + p)) 9 : Nat) : Int) else N 101 (72 + fom (fun p => N 101 (72 + p)) 9))), M) := by
      have ef : fom (M 52) 9 = fom (fun p => N 101 (72 + p)) 9 := fom_congr 9 (fun c hc => hcr c hc)
      have hf := fom_lt (fun p => N 101 (72 + p)) 9 (by omega)
      rw [m_Desk_heard_11_eq, show (9 : Int) = ((9 : Nat) : Int) from rfl, Rck_fom (n := 9) rfl (by decide) (by omega) (by omega), bI_some, ef]
      by_cases hx0 : x = 0
      · rw [if_pos hx0, if_pos hx0]
      · rw [if_neg hx0, if_neg hx0, grd_pos (by omega), Int.toNat_natCast, hcr _ hf]
    by_cases hx0 : x = 0
    · rw [if_pos hx0]
      exact agree_same h _ eX eY
    · rw [if_neg hx0, if_pos (by omega)]
      exact agree_same h _ eX eY
  · rw [if_neg hx, if_neg (by omega), if_neg (by omega)]
    exact agree_same h _ rfl rfl
theorem ag_count {M N : pz_M} (h : rl M N) (x : Int) : agree (m_Desk_count x M) (m_Mod_count x N) := by
  have h' := h
  obtain ⟨ht, ⟨kc, n, hc, hs, hl⟩, -, ⟨kr, nr, hr⟩, -⟩ := h'
  have hn : n ≤ 24 := hc.2.2.2.2.2.1
  rw [m_Desk_count_eq, m_Mod_count_eq]
  by_cases e0 : x = 0
  · rw [if_pos e0, if_pos e0]; exact agree_same h _ rfl (by rw [hs.2.2.1])
  rw [if_neg e0, if_neg e0]
  by_cases e1 : x = 1
  · rw [if_pos e1, if_pos e1]; exact agree_same h _ rfl (by rw [hc.2.2.2.1, hc.2.2.2.2.1])
  rw [if_neg e1, if_neg e1]
  by_cases e2 : x = 2
  · rw [if_pos e2, if_pos e2, Ter_bitsAt (n := n) rfl hc.2.2.2.1 hn, Mod_inState hc.2.2.2.2.1 hn, bI_some, bI_some]
    exact agree_same h _ rfl (by rw [← msk_9 hs])
  rw [if_neg e2, if_neg e2]
  by_cases e3 : x = 3
  · rw [if_pos e3, if_pos e3, Ter_bitsAt (n := n) rfl hc.2.2.2.1 hn, Mod_inState hc.2.2.2.2.1 hn, bI_some, bI_some]
    exact agree_same h _ rfl (by rw [← msk_10 hs])
  rw [if_neg e3, if_neg e3]
  by_cases e4 : x = 4
  · rw [if_pos e4, if_pos e4, Ter_cries rfl (fun p hp => ⟨(hs.2.1 p hp).2.1, Int.le_trans (hs.2.1 p hp).2.2 hs.2.2.2.2.1⟩), Mod_cries (fun p hp => by rw [← (hs.2.1 p hp).1]; exact ⟨(hs.2.1 p hp).2.1, Int.le_trans (hs.2.1 p hp).2.2 hs.2.2.2.2.1⟩), bI_some, bI_some]
    exact agree_same h _ rfl (by rw [sumI_congr 9 (fun c hc => (hs.2.1 c hc).1)])
  rw [if_neg e4, if_neg e4]
  by_cases e5 : x = 5
  · rw [if_pos e5, if_pos e5]
    have e : (M 0 2).toNat = kr := by rw [hr.2.1]; rfl
    rw [e, grd_pos (by rcases hr.1 with rfl | rfl <;> rfl)]
    exact agree_same h _ rfl (by rw [hr.2.2.2.1, hr.2.2.2.2.1])
  rw [if_neg e5, if_neg e5]
  by_cases e6 : x = 6
  · rw [if_pos e6, if_pos e6]; exact agree_same h _ rfl (by rw [ht.1])
  rw [if_neg e6, if_neg e6]
  by_cases e7 : x = 7
  · rw [if_pos e7, if_pos e7]; exact agree_same h _ rfl (by rw [hs.2.2.2.2.2.1])
  rw [if_neg e7, if_neg e7]
  exact agree_same h _ rfl rfl
