/-! seats and power: the votes on the tape -/
/-- the votes of n parties, as both hold them -/
def vts (M N : pz_M) (n : Nat) (v : Nat → Int) : Prop := M 38 3 = n ∧ n ≤ 8 ∧ (∀ i, i < n → M 39 i = v i ∧ 0 ≤ v i ∧ v i ≤ 255) ∧ (∀ i, i < 260 → -128 ≤ N 107 i ∧ N 107 i ≤ 127) ∧ (∀ i, i < n → N 107 i % 256 = v i)
theorem vts.oct {M N : pz_M} {n : Nat} {v : Nat → Int} (h : vts M N n v) {x : Int} (h0 : 0 ≤ x) (h1 : x < n) : m_Mod_octet x N = some (some (pzI (v x.toNat)), N) := by
  obtain ⟨a, b, c, d, e⟩ := h
  rw [Mod_octet h0 (by omega) (d _ (by omega)), e _ (by omega)]
theorem vts.wr {M N : pz_M} {n : Nat} {v : Nat → Int} (h : vts M N n v) {k w i j : Nat} {x y : Int} (hk : k = 40 ∨ k = 41) (hw : w = 130 ∨ w = 131) : vts (pz_wr M k i x) (pz_wr N w j y) n v := by
  unfold vts at h ⊢
  rw [wr_cell (show 38 ≠ k by omega)]
  refine ⟨h.1, h.2.1, fun i hi => ?_, fun i hi => ?_, fun i hi => ?_⟩
  · rw [wr_cell (show 39 ≠ k by omega)]; exact h.2.2.1 i hi
  · rw [wr_cell (show 107 ≠ w by omega)]; exact h.2.2.2.1 i hi
  · rw [wr_cell (show 107 ≠ w by omega)]; exact h.2.2.2.2 i hi
theorem vts.wrX {M N : pz_M} {n : Nat} {v : Nat → Int} (h : vts M N n v) {k i : Nat} {x : Int} (hk : k = 40 ∨ k = 41) : vts (pz_wr M k i x) N n v := by
  unfold vts at h ⊢
  rw [wr_cell (show 38 ≠ k by omega)]
  refine ⟨h.1, h.2.1, fun i hi => ?_, h.2.2.2.1, h.2.2.2.2⟩
  rw [wr_cell (show 39 ≠ k by omega)]; exact h.2.2.1 i hi
theorem vts.wrY {M N : pz_M} {n : Nat} {v : Nat → Int} (h : vts M N n v) {w j : Nat} {y : Int} (hw : w = 130 ∨ w = 131) : vts M (pz_wr N w j y) n v := by
  unfold vts at h ⊢
  refine ⟨h.1, h.2.1, h.2.2.1, fun i hi => ?_, fun i hi => ?_⟩
  · rw [wr_cell (show 107 ≠ w by omega)]; exact h.2.2.2.1 i hi
  · rw [wr_cell (show 107 ≠ w by omega)]; exact h.2.2.2.2 i hi
theorem Par_load {M N : pz_M} {n : Nat} (h1 : n ≤ 8) (he : M 29 3 = n) (hb : ∀ i, i < 260 → -128 ≤ N 107 i ∧ N 107 i ≤ 127 ∧ M 30 i = N 107 i % 256) : ∃ M', m_Parties_load n M = some (some (pzI (sumI (M 30) n)), M') ∧ vts M' N n (M 30) ∧ (∀ i, i < n → M' 41 i = 0) ∧ kX M M' := by
  have hv : ∀ i, i < n → 0 ≤ M 30 i ∧ M 30 i ≤ 255 := by
    intro i hi
    have := (hb i (by omega)).2.2
    omega
  have L : ∀ (j : Nat) (x : Int) (w : pz_V) (M' : pz_M), 0 ≤ x → x + j = n → kX M M' → M' 38 3 = n → M' 29 3 = n → (∀ i : Nat, (i : Int) < x → M' 39 i = M 30 i ∧ M' 41 i = 0) → ∃ M2, m_Parties_load_19 w (sumI (M 30) x.toNat) x M' = some (some (pzI (sumI (M 30) n)), M2) ∧ vts M2 N n (M 30) ∧ (∀ i, i < n → M2 41 i = 0) ∧ kX M M2 := by
    intro j
    induction j with
    | zero =>
      intro x w M' x0 hj k0 k1 k2 k3
      have e : x = n := by omega
      subst e
      refine ⟨M', ?_, ⟨k1, h1, fun i hi => ⟨(k3 i (by omega)).1, hv i hi⟩, fun i hi => ⟨(hb i hi).1, (hb i hi).2.1⟩, fun i hi => ((hb i (by omega)).2.2).symm⟩, fun i hi => (k3 i (by omega)).2, k0⟩
      rw [m_Parties_load_19_eq, k1, if_neg (show ¬ (n : Int) < n by omega)]
      rfl
    | succ j ih =>
      intro x w M' x0 hj k0 k1 k2 k3
      have hs := sumI_rg (f := M 30) (B := 255) x.toNat (fun c hc => hv c (by omega))
      have hx := hv x.toNat (by omega)
      rw [m_Parties_load_19_eq, k1, if_pos (show x < n by omega), Tape_byteAt x0 (by omega) (by omega), bI_some, grd_pos (by omega), bM_eq, grd_pos (by omega), bM_eq, grd_pos (by omega), wr_cell (k := 41) (by decide), wr_same, k0 30 x.toNat rfl, ia_eq (by omega) (by omega), ia_eq (by omega) (by omega), ← sumI_at x0]
      refine ih (x + 1) w _ (by omega) (by omega) ((k0.wr rfl).wr rfl) ?_ ?_ ?_
      · rw [wr_cell (by decide), wr_cell (by decide)]; exact k1
      · rw [wr_cell (by decide), wr_cell (by decide)]; exact k2
      · intro i hi
        rw [wr_cell (k := 41) (by decide), wr_at, wr_at, wr_cell (k := 39) (by decide)]
        by_cases e : i = x.toNat
        · rw [if_pos e, if_pos e, e]; exact ⟨rfl, rfl⟩
        · rw [if_neg e, if_neg e]; exact k3 i (by omega)
  rw [m_Parties_load_eq, Math_min, bI_some, Math_max, bI_some, bM_eq, show max 0 (min (n : Int) 8) = n by omega]
  refine L n 0 (pzI n) _ (by omega) (by omega) ((kX.rf M).wr rfl) wr_same ?_ (fun i hi => by omega)
  rw [wr_cell (by decide)]; exact he
theorem Mod_sumUp {M N : pz_M} {n : Nat} {v : Nat → Int} (h : vts M N n v) : m_Mod_sumUp n N = some (some (pzI (sumI v n)), N) := by
  have L : ∀ (j : Nat) (x : Int), 0 ≤ x → x + j = n → m_Mod_sumUp_4 n (sumI v x.toNat) x N = some (some (pzI (sumI v n)), N) := by
    intro j
    induction j with
    | zero =>
      intro x x0 hj
      have e : x = n := by omega
      subst e
      rw [m_Mod_sumUp_4_eq, if_neg (show ¬ (n : Int) < n by omega)]
      rfl
    | succ j ih =>
      intro x x0 hj
      have h8 := h.2.1
      have hs := sumI_rg (f := v) (B := 255) x.toNat (fun c hc => (h.2.2.1 c (by omega)).2)
      have hx := (h.2.2.1 x.toNat (by omega)).2
      rw [m_Mod_sumUp_4_eq, if_pos (show x < n by omega), h.oct x0 (by omega), bI_some, ia_eq (by omega) (by omega), ia_eq (by omega) (by omega), ← sumI_at x0]
      exact ih (x + 1) (by omega) (by omega)
  rw [m_Mod_sumUp_eq]
  exact L n 0 (by omega) (by omega)
theorem Mod_restMost {N : pz_M} {n : Nat} (h0 : 1 ≤ n) (h8 : n ≤ 8) {w2 w3 : pz_V} {l : Int} : ∀ (j : Nat) (x : Int), 1 ≤ x → x + j = n → m_Mod_sharesByRests_75 n w2 w3 l ((fom (N 131) x.toNat : Nat) : Int) x N = m_Mod_sharesByRests_75 n w2 w3 l ((fom (N 131) n : Nat) : Int) n N := by
  intro j
  induction j with
  | zero =>
    intro x x0 hj
    have e : x = n := by omega
    subst e
    rfl
  | succ j ih =>
    intro x x0 hj
    have hf := fom_lt (N 131) x.toNat (by omega)
    have := ih (x + 1) (by omega) (by omega)
    rw [fom_at (by omega)] at this
    rw [m_Mod_sharesByRests_75_eq, if_pos (show x < n by omega), grd_pos (by omega), grd_pos (by omega), ia_eq (by omega) (by omega), show ((fom (N 131) x.toNat : Nat) : Int).toNat = fom (N 131) x.toNat by omega, ← this]
    by_cases c : N 131 (fom (N 131) x.toNat) < N 131 x.toNat
    · rw [if_pos c, if_pos c, show ((x.toNat : Nat) : Int) = x by omega]
    · rw [if_neg c, if_neg c]
/-- the same shares in both -/
def shr (M N : pz_M) (n : Nat) : Prop := ∀ i, i < n → M 41 i = N 130 i
def rst (M N : pz_M) (n : Nat) : Prop := ∀ i, i < n → M 40 i = N 131 i
theorem Par_rests_L {n : Nat} (h0 : 1 ≤ n) {v : Nat → Int} : ∀ (j : Nat) (M N : pz_M) (x l : Int) (w1 w2 w5 u2 u3 u5 u6 : pz_V), 0 ≤ x → x + j = l → l ≤ 1000 → vts M N n v → shr M N n → rst M N n → ∃ M' N', m_Parties_shareByRests_74 w1 w2 l x w5 M = some (none, M') ∧ m_Mod_sharesByRests_64 n u2 u3 (j : Int) u5 u6 N = some (none, N') ∧ shr M' N' n ∧ kX M M' ∧ kY N N' := by
  intro j
  induction j with
  | zero =>
    intro M N x l w1 w2 w5 u2 u3 u5 u6 x0 hj hl hv hs hr
    exact ⟨M, N, by rw [m_Parties_shareByRests_74_eq, if_neg (show ¬ x < l by omega)], by rw [m_Mod_sharesByRests_64_eq, if_neg (show ¬ (0 : Int) < ((0 : Nat) : Int) by omega)], hs, kX.rf M, kY.rf N⟩
  | succ j ih =>
    intro M N x l w1 w2 w5 u2 u3 u5 u6 x0 hj hl hv hs hr
    have h8 := hv.2.1
    have hf := fom_lt (M 40) n (by omega)
    have hfe : fom (N 131) n = fom (M 40) n := fom_congr n (fun c hc => (hr c hc).symm)
    rw [m_Parties_shareByRests_74_eq, if_pos (show x < l by omega), hv.1, Rck_fom rfl h8 h0 (by omega), bI_some]
    rw [m_Mod_sharesByRests_64_eq, if_pos (show (0 : Int) < ((j + 1 : Nat) : Int) by omega)]
    have e0 := Mod_restMost (N := N) (w2 := u2) (w3 := u3) (l := ((j + 1 : Nat) : Int)) h0 h8 (n - 1) 1 (by omega) (by omega)
    rw [show (1 : Int).toNat = 1 from rfl, fom_1] at e0
    rw [show (0 : Int) = ((0 : Nat) : Int) from rfl, e0, hfe, m_Mod_sharesByRests_75_eq, if_neg (show ¬ (n : Int) < n by omega)]
    generalize fom (M 40) n = b at hf
    rw [grd_pos (by omega), grd_pos (by omega), bM_eq, grd_pos (by omega), bM_eq, grd_pos (by omega), grd_pos (by omega), bM_eq, grd_pos (by omega), bM_eq, show ((b : Nat) : Int).toNat = b from rfl, ia_eq (x := x) (by omega) (by omega), isb_eq (by omega) (by omega), hs b hf, show ((j + 1 : Nat) : Int) - 1 = (j : Int) by omega]
    obtain ⟨M', N', g1, g2, g3, g4, g5⟩ := ih (pz_wr (pz_wr M 41 b (ia (N 130 b) 1)) 40 b (-1)) (pz_wr (pz_wr N 130 b (ia (N 130 b) 1)) 131 b (-1)) (x + 1) l w1 w2 (pzI (b : Int)) u2 u3 (pzI (b : Int)) (pzI n) (by omega) (by omega) hl ((hv.wr (Or.inr rfl) (Or.inl rfl)).wr (Or.inl rfl) (Or.inr rfl)) (by
      intro i hi
      rw [wr_cell (k := 40) (by decide), wr_cell (k := 131) (by decide), wr_at, wr_at, hs i hi]) (by
      intro i hi
      rw [wr_at, wr_at, wr_cell (k := 41) (by decide), wr_cell (k := 130) (by decide), hr i hi])
    exact ⟨M', N', g1, g2, g3, (((kX.rf M).wr rfl).wr rfl).tr g4, (((kY.rf N).wr rfl).wr rfl).tr g5⟩
theorem Par_rests {M N : pz_M} {n : Nat} {v : Nat → Int} {s : Int} (h0 : 1 ≤ n) (hv : vts M N n v) (s0 : 0 ≤ s) (s1 : s ≤ 60) (ht : 0 < sumI v n) : ∃ M' N', m_Parties_shareByRests s (sumI v n) M = some (none, M') ∧ m_Mod_sharesByRests n s (sumI v n) N = some (none, N') ∧ shr M' N' n ∧ kX M M' ∧ kY N N' := by
  have htB := sumI_rg (f := v) (B := 255) n (fun c hc => (hv.2.2.1 c hc).2)
  have h8 := hv.2.1
  generalize sumI v n = t at ht htB
  have L : ∀ (j : Nat) (M N : pz_M) (x l : Int) (w5 u6 : pz_V), 0 ≤ x → x + j = n → l ≤ 60 → 0 - 16000 * x ≤ l → vts M N n v → (∀ i : Nat, (i : Int) < x → M 41 i = N 130 i ∧ M 40 i = N 131 i) → ∃ M' N', m_Parties_shareByRests_10 s t l x w5 M = some (none, M') ∧ m_Mod_sharesByRests_6 n s t l x u6 N = some (none, N') ∧ shr M' N' n ∧ kX M M' ∧ kY N N' := by
    intro j
    induction j with
    | zero =>
      intro M N x l w5 u6 x0 hj hl hl2 hv hh
      rw [m_Parties_shareByRests_10_eq, hv.1, if_neg (show ¬ x < n by omega), m_Mod_sharesByRests_6_eq, if_neg (show ¬ x < n by omega)]
      by_cases h : 0 ≤ l
      · have := Par_rests_L h0 l.toNat M N 0 l (pzI s) (pzI t) w5 (pzI s) (pzI t) (pzI x) u6 (by omega) (by omega) (by omega) hv (fun i hi => (hh i (by omega)).1) (fun i hi => (hh i (by omega)).2)
        rw [show ((l.toNat : Nat) : Int) = l by omega] at this
        exact this
      · exact ⟨M, N, by rw [m_Parties_shareByRests_74_eq, if_neg (show ¬ 0 < l by omega)], by rw [m_Mod_sharesByRests_64_eq, if_neg (show ¬ 0 < l by omega)], fun i hi => (hh i (by omega)).1, kX.rf M, kY.rf N⟩
    | succ j ih =>
      intro M N x l w5 u6 x0 hj hl hl2 hv hh
      have hx := hv.2.2.1 x.toNat (by omega)
      have hm0 : 0 ≤ v x.toNat * s := Int.mul_nonneg hx.2.1 s0
      have hm1 : v x.toNat * s ≤ 255 * 60 := Int.mul_le_mul hx.2.2 s1 s0 (by omega)
      have hd0 : 0 ≤ v x.toNat * s / t := Int.ediv_nonneg hm0 (by omega)
      have hd1 : v x.toNat * s / t ≤ v x.toNat * s := Int.ediv_le_self _ hm0
      have ex : idv (imu (v x.toNat) s) t = v x.toNat * s / t := by rw [imu_eq (by omega) (by omega), idv_nn hm0 (by omega) ht (by omega)]
      rw [m_Parties_shareByRests_10_eq, hv.1, if_pos (show x < n by omega), grd_pos (by omega), grd_pos (by omega), grd_pos (by omega), bM_eq, grd_pos (by omega), grd_pos (by omega), grd_pos (by omega), bM_eq, grd_pos (by omega), wr_cell (k := 40) (i := x.toNat) (c := 41) (by decide), wr_same, wr_cell (k := 41) (c := 39) (by decide), hx.1, ex]
      rw [m_Mod_sharesByRests_6_eq, if_pos (show x < n by omega), hv.oct x0 (by omega), bI_some, grd_pos (by omega), grd_pos (by omega), bM_eq, (hv.wrY (w := 130) (Or.inl rfl)).oct x0 (by omega), bI_some, grd_pos (by omega), grd_pos (by omega), bM_eq, grd_pos (by omega), wr_cell (k := 131) (c := 130) (by decide), wr_same, ex, isb_eq (by omega) (by omega), ia_eq (by omega) (by omega)]
      obtain ⟨M', N', g1, g2, g3, g4, g5⟩ := ih (pz_wr (pz_wr M 41 x.toNat (v x.toNat * s / t)) 40 x.toNat (irm (imu (v x.toNat) s) t)) (pz_wr (pz_wr N 130 x.toNat (v x.toNat * s / t)) 131 x.toNat (irm (imu (v x.toNat) s) t)) (x + 1) (l - v x.toNat * s / t) w5 u6 (by omega) (by omega) (by omega) (by omega) ((hv.wr (Or.inr rfl) (Or.inl rfl)).wr (Or.inl rfl) (Or.inr rfl)) (by
        intro i hi
        rw [wr_cell (k := 40) (c := 41) (by decide), wr_cell (k := 131) (c := 130) (by decide), wr_at, wr_at, wr_at, wr_at, wr_cell (k := 41) (c := 40) (by decide), wr_cell (k := 130) (c := 131) (by decide)]
        by_cases e : i = x.toNat
        · rw [if_pos e, if_pos e, if_pos e, if_pos e]; exact ⟨rfl, rfl⟩
        · rw [if_neg e, if_neg e, if_neg e, if_neg e]; exact hh i (by omega))
      exact ⟨M', N', g1, g2, g3, (((kX.rf M).wr rfl).wr rfl).tr g4, (((kY.rf N).wr rfl).wr rfl).tr g5⟩
  rw [m_Parties_shareByRests_eq, if_pos ht, m_Mod_sharesByRests_eq]
  exact L n M N 0 s pzN pzN (by omega) (by omega) s1 (by omega) hv (fun i hi => by omega)
theorem Par_highs {n : Nat} (h0 : 1 ≤ n) {v : Nat → Int} {s : Int} (hs : s ≤ 60) : ∀ (j : Nat) (M N : pz_M) (x : Int) (w3 w4 u4 u5 : pz_V), 0 ≤ x → x + j = s → vts M N n v → shr M N n → ∃ M' N', m_Parties_shareByHighest_2 s x w3 w4 M = some (none, M') ∧ m_Mod_sharesByHighest_22 n s x u4 u5 N = some (none, N') ∧ shr M' N' n ∧ kX M M' ∧ kY N N' := by
  intro j
  induction j with
  | zero =>
    intro M N x w3 w4 u4 u5 x0 hj hv hh
    exact ⟨M, N, by rw [m_Parties_shareByHighest_2_eq, if_neg (show ¬ x < s by omega)], by rw [m_Mod_sharesByHighest_22_eq, if_neg (show ¬ x < s by omega)], hh, kX.rf M, kY.rf N⟩
  | succ j ih =>
    intro M N x w3 w4 u4 u5 x0 hj hv hh
    have h8 := hv.2.1
    rw [m_Parties_shareByHighest_2_eq, if_pos (show x < s by omega), m_Mod_sharesByHighest_22_eq, if_pos (show x < s by omega)]
    have I : ∀ (i : Nat) (b y : Int), 0 ≤ b → b < n → 1 ≤ y → y + i = n → ∃ M' N', m_Parties_shareByHighest_12 s x b y M = some (none, M') ∧ m_Mod_sharesByHighest_33 n s x b y N = some (none, N') ∧ shr M' N' n ∧ kX M M' ∧ kY N N' := by
      intro i
      induction i with
      | zero =>
        intro b y b0 b1 y0 hi
        rw [m_Parties_shareByHighest_12_eq, hv.1, if_neg (show ¬ y < n by omega), grd_pos (by omega), grd_pos (by omega), bM_eq, m_Mod_sharesByHighest_33_eq, if_neg (show ¬ y < n by omega), grd_pos (by omega), grd_pos (by omega), bM_eq, ia_eq (x := x) (by omega) (by omega), hh b.toNat (by omega)]
        obtain ⟨M', N', g1, g2, g3, g4, g5⟩ := ih (pz_wr M 41 b.toNat (ia (N 130 b.toNat) 1)) (pz_wr N 130 b.toNat (ia (N 130 b.toNat) 1)) (x + 1) (pzI b) (pzI y) (pzI b) (pzI y) (by omega) (by omega) (hv.wr (Or.inr rfl) (Or.inl rfl)) (by
          intro i hi
          rw [wr_at, wr_at, hh i hi])
        exact ⟨M', N', g1, g2, g3, ((kX.rf M).wr rfl).tr g4, ((kY.rf N).wr rfl).tr g5⟩
      | succ i ih2 =>
        intro b y b0 b1 y0 hi
        rw [m_Parties_shareByHighest_12_eq, hv.1, if_pos (show y < n by omega), grd_pos (by omega), grd_pos (by omega), grd_pos (by omega), grd_pos (by omega), m_Mod_sharesByHighest_33_eq, if_pos (show y < n by omega), hv.oct (by omega) (by omega), bI_some, grd_pos (by omega), hv.oct b0 b1, bI_some, grd_pos (by omega), (hv.2.2.1 b.toNat (by omega)).1, (hv.2.2.1 y.toNat (by omega)).1, hh b.toNat (by omega), hh y.toNat (by omega), ia_eq (x := y) (by omega) (by omega)]
        by_cases c : imu (v b.toNat) (ia (N 130 y.toNat) 1) < imu (v y.toNat) (ia (N 130 b.toNat) 1)
        · rw [if_pos c, if_pos c]
          exact ih2 y (y + 1) (by omega) (by omega) (by omega) (by omega)
        · rw [if_neg c, if_neg c]
          exact ih2 b (y + 1) b0 b1 (by omega) (by omega)
    exact I (n - 1) 0 1 (by omega) (by omega) (by omega) (by omega)
theorem Mod_zeroShares {n : Nat} (h8 : n ≤ 8) {M : pz_M} {v : Nat → Int} {s : Int} {u4 u5 : pz_V} : ∀ (j : Nat) (N : pz_M) (x : Int), 0 ≤ x → x + j = n → vts M N n v → (∀ i : Nat, (i : Int) < x → N 130 i = 0) → ∃ N', m_Mod_sharesByHighest_2 n s x u4 u5 N = m_Mod_sharesByHighest_22 n s 0 u4 u5 N' ∧ vts M N' n v ∧ (∀ i, i < n → N' 130 i = 0) ∧ kY N N' := by
  intro j
  induction j with
  | zero =>
    intro N x x0 hj hv hz
    exact ⟨N, by rw [m_Mod_sharesByHighest_2_eq, if_neg (show ¬ x < n by omega)], hv, fun i hi => hz i (by omega), kY.rf N⟩
  | succ j ih =>
    intro N x x0 hj hv hz
    rw [m_Mod_sharesByHighest_2_eq, if_pos (show x < n by omega), grd_pos (by omega), bM_eq, ia_eq (by omega) (by omega)]
    obtain ⟨N', g1, g2, g3, g4⟩ := ih (pz_wr N 130 x.toNat 0) (x + 1) (by omega) (by omega) (hv.wrY (Or.inl rfl)) (by
      intro i hi
      rw [wr_at]
      by_cases e : i = x.toNat
      · rw [if_pos e]
      · rw [if_neg e]; exact hz i (by omega))
    exact ⟨N', g1, g2, g3, ((kY.rf N).wr rfl).tr g4⟩
theorem ag_seats {M N : pz_M} (h : rl M N) (n s b w : Int) : agree (m_Desk_seats n s b w M) (m_Mod_seats n s b w N) := by
  have hT := h.1
  rw [m_Desk_seats_eq, m_Mod_seats_eq, Tape_take, Mod_in, bI_some, b01_ite, Mod_in, bI_some, b01_ite, Mod_in, bI_some, b01_ite]
  by_cases hn : 2 ≤ n ∧ n ≤ 8
  rotate_left
  · rw [if_neg hn, if_neg (show ¬ (2 ≤ n ∧ n ≤ 8 ∧ n ≤ M 29 1) by omega), bI_some, if_pos rfl]
    simp only [ite_self]
    exact agree_same h _ rfl rfl
  rw [if_pos hn]
  by_cases hs : 1 ≤ s ∧ s ≤ 60
  rotate_left
  · rw [if_neg hs]
    by_cases h1 : s < 1
    · rw [if_pos h1]; exact agree_same h _ rfl rfl
    · rw [if_neg h1, if_pos (show 60 < s by omega)]; exact agree_same h _ rfl rfl
  rw [if_pos hs, if_neg (show ¬ s < 1 by omega), if_neg (show ¬ 60 < s by omega), isb_eq (by omega) (by omega)]
  by_cases hw : 0 ≤ w ∧ w ≤ n - 1
  rotate_left
  · rw [if_neg hw]
    by_cases h1 : w < 0
    · rw [if_pos h1]; exact agree_same h _ rfl rfl
    · rw [if_neg h1, if_neg (show ¬ w < n by omega)]; exact agree_same h _ rfl rfl
  rw [if_pos hw, if_neg (show ¬ w < 0 by omega), if_pos (show w < n by omega)]
  by_cases hx : n ≤ M 29 1
  rotate_left
  · rw [if_neg (show ¬ (2 ≤ n ∧ n ≤ 8 ∧ n ≤ M 29 1) by omega), bI_some, if_pos rfl, if_pos (show N 100 8 < n by rw [← hT.1]; omega)]
    exact agree_same h _ rfl rfl
  rw [if_pos (show (2 ≤ n ∧ n ≤ 8 ∧ n ≤ M 29 1) by omega), bI_some, if_neg (show ¬ (1 : Int) = 0 by omega), if_neg (show ¬ N 100 8 < n by rw [← hT.1]; omega), bM_eq]
  have h2 := rl_tk h n
  have hend : tk M n 29 3 = n := tk_end
  generalize tk M n = M1 at h2 hend ⊢
  generalize pz_wr N 100 8 0 = N1 at h2 ⊢
  obtain ⟨m, em⟩ : ∃ m : Nat, n = m := ⟨n.toNat, by omega⟩
  subst em
  obtain ⟨M2, g1, g2, g3, g4⟩ := Par_load (M := M1) (N := N1) (n := m) (by omega) hend h2.1.2.2.2
  have hB := sumI_rg (f := M1 30) (B := 255) m (fun c hc => (g2.2.2.1 c hc).2)
  rw [g1, bI_some, Mod_sumUp g2, bI_some]
  by_cases z : sumI (M1 30) m = 0
  · rw [if_pos z, if_pos z]
    exact ⟨-2, M2, N1, rfl, rfl, rl_keep h2 g4 (kY.rf N1)⟩
  rw [if_neg z, if_neg z]
  by_cases hb : b = 0
  · rw [if_pos hb, if_pos hb, Mod_sumUp g2, bI_some]
    obtain ⟨M3, N3, p1, p2, p3, p4, p5⟩ := Par_rests (by omega) g2 (by omega) hs.2 (by omega)
    rw [p1, bV_some, p2, bV_some, grd_pos (by omega), grd_pos (by omega), p3 w.toNat (by omega)]
    exact ⟨_, M3, N3, rfl, rfl, rl_keep h2 (g4.tr p4) p5⟩
  · rw [if_neg hb, if_neg hb, m_Parties_shareByHighest_eq, m_Mod_sharesByHighest_eq]
    obtain ⟨N2, q1, q2, q3, q4⟩ := Mod_zeroShares (s := s) (u4 := pzN) (u5 := pzN) (by omega) m N1 0 (by omega) (by omega) g2 (fun i hi => by omega)
    obtain ⟨M3, N3, p1, p2, p3, p4, p5⟩ := Par_highs (n := m) (by omega) hs.2 s.toNat M2 N2 0 pzN pzN pzN pzN (by omega) (by omega) q2 (fun i hi => by rw [g3 i hi, q3 i hi])
    rw [p1, bV_some, q1, p2, bV_some, grd_pos (by omega), grd_pos (by omega), p3 w.toNat (by omega)]
    exact ⟨_, M3, N3, rfl, rfl, rl_keep h2 (g4.tr p4) (q4.tr p5)⟩
