/-! ===== a law is read: sums ===== -/
def exO : Option Nat → Int
  | none => -1
  | some r => (r : Int)
def pdT : Option Nat → List (Nat × Nat)
  | none => []
  | some r => [(4 + r, 0)]
def pdQ : Option Nat → List (Nat × Nat)
  | none => []
  | some r => [(2 + r, 0)]
def pdO : Option Nat → List Bool
  | none => []
  | some _ => [false]
noncomputable def refF (base : Int) (w : pz_V) (N : pz_M) : Option pz_A := bI (m_Mod_readsFactor N) fun r N1 => if r = 0 then some (some (pzI 0), N1) else m_Mod_readsSum_14 base w N1
theorem clo_0 (x : Int) (N : pz_M) : m_Mod_closesSums x N = m_Mod_closesSums_0 x N := by rw [m_Mod_closesSums_eq, m_Mod_closesSums_0_eq]
theorem rf_0 (N : pz_M) : m_Mod_readsFactor_0 pzN N = m_Mod_readsFactor N := by rw [m_Mod_readsFactor_0_eq, m_Mod_readsFactor_eq]
/-- no sign of a sum -/
def nsg (h : Int) : Prop := h ≠ 43 ∧ h ≠ 45 ∧ h ≠ 42 ∧ h ≠ 47 ∧ h ≠ 37
theorem sg_cases (h : Int) (N : pz_M) : (∃ r : Nat, r ≤ 2 ∧ 0 ≤ h ∧ plc [42, 47, 37] h 0 = (r : Int) ∧ m_Mod_sumSign h N = some (some (pzI ((4 + r : Nat) : Int)), N)) ∨ (∃ r : Nat, r ≤ 1 ∧ 0 ≤ h ∧ plc [42, 47, 37] h 0 = -1 ∧ plc [43, 45] h 0 = (r : Int) ∧ m_Mod_sumSign h N = some (some (pzI ((2 + r : Nat) : Int)), N)) ∨ (nsg h ∧ plc [42, 47, 37] h 0 = -1 ∧ plc [43, 45] h 0 = -1 ∧ m_Mod_sumSign h N = some (some (pzI (-1)), N)) := by
  rw [m_Mod_sumSign_eq]
  by_cases c1 : h = 42
  · subst c1; exact Or.inl ⟨0, by omega, by omega, rfl, rfl⟩
  by_cases c2 : h = 47
  · subst c2; exact Or.inl ⟨1, by omega, by omega, rfl, rfl⟩
  by_cases c3 : h = 37
  · subst c3; exact Or.inl ⟨2, by omega, by omega, rfl, rfl⟩
  have e1 : plc [42, 47, 37] h 0 = -1 := by
    show (if 42 = h then _ else if 47 = h then _ else if 37 = h then _ else (-1 : Int)) = -1
    rw [if_neg (fun z => c1 z.symm), if_neg (fun z => c2 z.symm), if_neg (fun z => c3 z.symm)]
  by_cases c4 : h = 43
  · subst c4; exact Or.inr (Or.inl ⟨0, by omega, by omega, rfl, rfl, rfl⟩)
  by_cases c5 : h = 45
  · subst c5; exact Or.inr (Or.inl ⟨1, by omega, by omega, rfl, rfl, rfl⟩)
  refine Or.inr (Or.inr ⟨⟨c4, c5, c1, c2, c3⟩, e1, ?_, ?_⟩)
  · show (if 43 = h then _ else if 45 = h then _ else (-1 : Int)) = -1
    rw [if_neg (fun z => c4 z.symm), if_neg (fun z => c5 z.symm)]
  · rw [if_neg c4, if_neg c5, if_neg c1, if_neg c2, if_neg c3]
section
variable {ks cs ms e : Nat} {t : Nat → Int}
theorem clo_pop (hk : ks = 13 ∨ ks = 21) (hm : ms ≤ cs) {M N : pz_M} {p o L k : Nat} {W : List (Nat × Nat)} {s : List Bool} (h : PQ ks cs ms e t M N p o L ((k, 0) :: W) (false :: false :: s)) (h2 : 2 ≤ k) (h6 : k ≤ 6) (hb : cs + L < 256) (hw : W.length + 1 < 260) (hl : s.length + 2 < 32) : ∃ M' N', m_Law_addStep ks ((k : Int) + 4) 0 M = some (some (pzI ((cs + L : Nat) : Int)), M') ∧ (∀ x : Int, (4 ≤ k ∨ x ≠ 0) → m_Mod_closesSums_0 x N = m_Mod_closesSums_0 x N') ∧ PQ ks cs ms e t M' N' p o (L + 1) W (false :: s) ∧ pX ks cs M M' ∧ pY ms N N' := by
  have ht := top_Y h (by show W.length + 1 < 260; omega)
  have ht' : m_Mod_waitTop N = some (some (pzI (k : Int)), N) := ht
  have hX : opX k = (k : Int) + 4 := by
    have : ∀ o : Fin 13, 2 ≤ o.val → o.val ≤ 9 → opX o.val = (o.val : Int) + 4 := by decide
    exact this ⟨k, by omega⟩ h2 (by show k ≤ 9; omega)
  obtain ⟨M1, N1, a1, a2, a3, a4, a5⟩ := pq_emit hk hm h hb hl (o' := k) (a := 0) (cur' := false :: s) (by omega) (by omega) (Or.inr (Or.inl ⟨h2, h6, s, rfl, rfl⟩))
  rw [hX] at a1
  have a2' : m_Mod_notes (k : Int) 0 N = some (none, N1) := a2
  have a6 := pq_pop a3 rfl ⟨by omega, by omega⟩ (by show W.length + 1 < 260; omega)
  refine ⟨M1, _, a1, fun x hx => ?_, a6, a4, a5.tr ((pY.rf N1).wr (Or.inl ⟨rfl, by omega⟩))⟩
  have e37 : m_Mod_closesSums_37 x N = m_Mod_closesSums_0 x (pz_wr N1 100 15 (isb (N1 100 15) 1)) := by rw [m_Mod_closesSums_37_eq, ht', bI_some, a2', bV_some, bM_eq]
  rw [m_Mod_closesSums_0_eq, ht', bI_some, ht', bI_some]
  by_cases c : k < 4
  · rw [if_pos (show (k : Int) < 4 by omega), m_Mod_closesSums_17_eq, if_neg (show ¬ x = 0 by omega), ht', bI_some, ht', bI_some]
    by_cases c2 : k = 2
    · rw [if_pos (show (k : Int) = 2 by omega), e37]
    · rw [if_neg (show ¬ (k : Int) = 2 by omega), if_pos (show (k : Int) = 3 by omega), e37]
  · rw [if_neg (show ¬ (k : Int) < 4 by omega), if_neg (show ¬ (6 : Int) < (k : Int) by omega), e37]
theorem clo_end {M N : pz_M} {p o L : Nat} {W : List (Nat × Nat)} {s : List Bool} (h : PQ ks cs ms e t M N p o L W s) (hw : W.length < 260) (x : Int) (h4 : ¬ (4 ≤ tpW W ∧ tpW W ≤ 6)) (hx : x = 0 ∨ (tpW W ≠ 2 ∧ tpW W ≠ 3)) : m_Mod_closesSums_0 x N = some (none, N) := by
  have ht := top_Y h hw
  have e17 : m_Mod_closesSums_17 x N = some (none, N) := by
    rw [m_Mod_closesSums_17_eq, ht, bI_some, ht, bI_some]
    by_cases c : x = 0
    · rw [if_pos c]
    · rw [if_neg c, if_neg (show ¬ tpW W = 2 by omega), if_neg (show ¬ tpW W = 3 by omega)]
  rw [m_Mod_closesSums_0_eq, ht, bI_some, ht, bI_some]
  by_cases c : tpW W < 4
  · rw [if_pos c, e17]
  · rw [if_neg c, if_pos (show 6 < tpW W by omega), e17]
theorem wst_at {N : pz_M} {P W : List (Nat × Nat)} {x : Nat × Nat} (h : wst ms N (P ++ x :: W)) : N 109 W.length = wv ms x ∧ x.1 ≤ 14 ∧ ms + x.2 < 1000 := by
  induction P with
  | nil => exact ⟨h.1, h.2.1, h.2.2.1⟩
  | cons y r ih => exact ih h.2.2.2
theorem wst_in {N : pz_M} {P W : List (Nat × Nat)} (h : wst ms N (P ++ W)) : ∀ i, W.length ≤ i → i < (P ++ W).length → ∃ x, x ∈ P ∧ N 109 i = wv ms x ∧ x.1 ≤ 14 ∧ ms + x.2 < 1000 := by
  induction P with
  | nil => intro i h1 h2; exact absurd h2 (by show ¬ i < W.length; omega)
  | cons y r ih =>
    intro i h1 h2
    have hl : ((y :: r) ++ W).length = (r ++ W).length + 1 := rfl
    by_cases e : i = (r ++ W).length
    · subst e
      exact ⟨y, List.mem_cons_self, h.1, h.2.1, h.2.2.1⟩
    · obtain ⟨x, q, z⟩ := ih h.2.2.2 i h1 (by omega)
      exact ⟨x, List.mem_cons_of_mem _ q, z⟩
theorem hos_no {N : pz_M} {P W : List (Nat × Nat)} (h : wst ms N (P ++ W)) (h15 : N 100 15 = ((P ++ W).length : Int)) (hl : (P ++ W).length < 260) (hP : ∀ x, x ∈ P → x.1 ≤ 6) : m_Mod_hasOpenSum (W.length : Int) N = some (some (pzI 0), N) := by
  rw [m_Mod_hasOpenSum_eq]
  have L : ∀ (j x : Nat), x + j = (P ++ W).length → W.length ≤ x → m_Mod_hasOpenSum_2 (pzI (W.length : Int)) (x : Int) N = some (some (pzI 0), N) := by
    intro j
    induction j with
    | zero => intro x hx _; rw [m_Mod_hasOpenSum_2_eq, h15, if_neg (by omega)]
    | succ j ih =>
      intro x hx hx2
      obtain ⟨y, q, z1, z2, z3⟩ := wst_in h x hx2 (by omega)
      have := hP y q
      rw [m_Mod_hasOpenSum_2_eq, h15, if_pos (by omega), grd_pos (by omega), show ((x : Nat) : Int).toNat = x from rfl, z1, wv_div z2 z3, if_neg (by omega), ia_eq (by omega) (by omega)]
      exact ih (x + 1) (by omega) (by omega)
  have hlen : (P ++ W).length = P.length + W.length := List.length_append
  exact L P.length W.length (by omega) (Nat.le_refl _)
theorem hos_yes {N : pz_M} {P W : List (Nat × Nat)} {base : Nat} (h : wst ms N (P ++ (14, 0) :: W)) (h15 : N 100 15 = ((P ++ (14, 0) :: W).length : Int)) (hl : (P ++ (14, 0) :: W).length < 260) (hb : base ≤ W.length) : m_Mod_hasOpenSum (base : Int) N = some (some (pzI 1), N) := by
  have hlen : (P ++ (14, 0) :: W).length = P.length + (W.length + 1) := List.length_append
  rw [m_Mod_hasOpenSum_eq]
  have L : ∀ (j x : Nat), x + j = W.length → m_Mod_hasOpenSum_2 (pzI (base : Int)) (x : Int) N = some (some (pzI 1), N) := by
    intro j
    induction j with
    | zero =>
      intro x hx
      obtain ⟨z1, z2, z3⟩ := wst_at h
      have ex : x = W.length := by omega
      subst ex
      rw [m_Mod_hasOpenSum_2_eq, h15, if_pos (by omega), grd_pos (by omega), show ((W.length : Nat) : Int).toNat = W.length from rfl, z1, wv_div z2 z3, if_pos (show ((14 : Nat) : Int) = 14 from rfl)]
    | succ j ih =>
      intro x hx
      rw [m_Mod_hasOpenSum_2_eq, h15, if_pos (by omega), grd_pos (by omega)]
      by_cases c : idv (N 109 ((x : Int).toNat)) 1048576 = 14
      · rw [if_pos c]
      · rw [if_neg c, ia_eq (by omega) (by omega)]
        exact ih (x + 1) (by omega)
  exact L (W.length - base) base (by omega)
/-- the reference behind a factor, where no sign of a sum stands -/
theorem K_top {N : pz_M} {P W : List (Nat × Nat)} {p : Nat} {w : pz_V} (y : txY N p e t) (hn : nsg (hr p e t)) (h : wst ms N (P ++ W)) (h15 : N 100 15 = ((P ++ W).length : Int)) (hl : (P ++ W).length < 260) (hP : ∀ x, x ∈ P → x.1 ≤ 6) : m_Mod_readsSum_14 (W.length : Int) w N = bV (m_Mod_closesSums 1 N) fun M3 => some (some (pzI 1), M3) := by
  have ho := hos_no h h15 hl hP
  have e138 : m_Mod_readsSum_138 (W.length : Int) (pzI (-1)) N = bV (m_Mod_closesSums 1 N) fun M3 => some (some (pzI 1), M3) := by rw [m_Mod_readsSum_138_eq, ho, bI_some, if_pos rfl]
  have hs : m_Mod_sumSign (hr p e t) N = some (some (pzI (-1)), N) := by
    rcases sg_cases (hr p e t) N with ⟨r, q1, q2, q3, q4⟩ | ⟨r, q1, q2, q3, q4, q5⟩ | q
    · unfold nsg at hn
      rw [m_Mod_sumSign_eq, if_neg hn.1, if_neg hn.2.1, if_neg hn.2.2.1, if_neg hn.2.2.2.1, if_neg hn.2.2.2.2]
    · unfold nsg at hn
      rw [m_Mod_sumSign_eq, if_neg hn.1, if_neg hn.2.1, if_neg hn.2.2.1, if_neg hn.2.2.2.1, if_neg hn.2.2.2.2]
    · exact q.2.2.2
  rw [m_Mod_readsSum_14_eq, Mod_here y, bI_some, hs, bI_some, if_pos rfl, Mod_here y, bI_some]
  by_cases c : hr p e t = 93
  · rw [if_pos c, ho, bI_some, if_pos rfl, e138]
  · rw [if_neg c, e138]
theorem K_in {N : pz_M} {P W : List (Nat × Nat)} {p base : Nat} {w : pz_V} (y : txY N p e t) (hn : nsg (hr p e t)) (h : wst ms N (P ++ (14, 0) :: W)) (h15 : N 100 15 = ((P ++ (14, 0) :: W).length : Int)) (hl : (P ++ (14, 0) :: W).length < 260) (hb : base ≤ W.length) : (hr p e t = 93 → m_Mod_readsSum_14 (base : Int) w N = bV (m_Mod_closesSums 1 N) fun M9 => bM (pz_wr M9 100 15 (isb (M9 100 15) 1)) fun M10 => bM (pz_wr M10 100 13 (isb (M10 100 13) 1)) fun M11 => bM (pz_wr M11 100 9 (ia (M11 100 9) 1)) fun M12 => m_Mod_readsSum_14 (base : Int) (pzI (-1)) M12) ∧ (hr p e t ≠ 93 → m_Mod_readsSum_14 (base : Int) w N = some (some (pzI 0), pz_wr N 100 11 (isb (imu (-1000) 1) p))) := by
  have ho := hos_yes h h15 hl hb
  have hs : m_Mod_sumSign (hr p e t) N = some (some (pzI (-1)), N) := by
    unfold nsg at hn
    rw [m_Mod_sumSign_eq, if_neg hn.1, if_neg hn.2.1, if_neg hn.2.2.1, if_neg hn.2.2.2.1, if_neg hn.2.2.2.2]
  rw [m_Mod_readsSum_14_eq, Mod_here y, bI_some, hs, bI_some, if_pos rfl, Mod_here y, bI_some]
  constructor
  · intro c
    rw [if_pos c, ho, bI_some, if_neg (show ¬ (1 : Int) = 0 by decide)]
  · intro c
    rw [if_neg c, m_Mod_readsSum_138_eq, ho, bI_some, if_neg (show ¬ (1 : Int) = 0 by decide), fail_Y, bI_some, grd_pos (by omega), y.1]
end
def FacP (ks cs ms e : Nat) (t : Nat → Int) (p : Nat) : Prop := ∀ (d o L base g : Nat) (M N : pz_M) (W : List (Nat × Nat)) (s : List Bool) (w : pz_V), PQ ks cs ms e t M N p o L W s → cs + L + wl W + g ≤ p → W.length ≤ p → s.length ≤ 2 * o + 3 → o ≤ 6 → 21 ≤ d + 2 * o → base ≤ W.length → (bad ks cs ms M N (m_LawReader_readFactor d ks o M) (refF base w N) ∨ ∃ (M' N' : pz_M) (p' L' : Nat) (w' : pz_V), m_LawReader_readFactor d ks o M = some (some (pzI 1), M') ∧ refF base w N = m_Mod_readsSum_14 base w' N' ∧ PQ ks cs ms e t M' N' p' o L' W (false :: s) ∧ cs + L' + wl W + g ≤ p' ∧ p < p' ∧ pX ks cs M M' ∧ pY ms N N')
def SumP (ks cs ms e : Nat) (t : Nat → Int) (p : Nat) : Prop := ∀ (d o L base i g : Nat) (M N : pz_M) (W : List (Nat × Nat)) (s : List Bool) (T Q : Option Nat) (w : pz_V), (∀ r, T = some r → r ≤ 2) → (∀ r, Q = some r → r ≤ 1) → PQ ks cs ms e t M N p o L (pdT T ++ (pdQ Q ++ W)) (pdO T ++ (pdO Q ++ s)) → ¬ (2 ≤ tpW W ∧ tpW W ≤ 6) → cs + L + wl (pdT T ++ (pdQ Q ++ W)) + g ≤ p → (pdT T ++ (pdQ Q ++ W)).length ≤ p → i ≤ p → s.length ≤ 2 * o + 1 → o ≤ 6 → 22 ≤ d + 2 * o → base ≤ W.length → (bad ks cs ms M N (m_LawReader_readSum_8 d ks o (exO T) (exO Q) i M) (refF base w N) ∨ ∃ (M' N2 N' : pz_M) (p' L' : Nat) (w' : pz_V) (P : List (Nat × Nat)), m_LawReader_readSum_8 d ks o (exO T) (exO Q) i M = some (some (pzI 1), M') ∧ refF base w N = m_Mod_readsSum_14 base w' N2 ∧ txY N2 p' e t ∧ nsg (hr p' e t) ∧ N2 100 15 = ((P ++ W).length : Int) ∧ wst ms N2 (P ++ W) ∧ (∀ x, x ∈ P → x.1 ≤ 6) ∧ (P ++ W).length < 260 ∧ m_Mod_closesSums 1 N2 = some (none, N') ∧ PQ ks cs ms e t M' N' p' o L' W (false :: s) ∧ cs + L' + wl W + g ≤ p' ∧ p < p' ∧ pX ks cs M M' ∧ pY ms N N' ∧ pY ms N N2)
