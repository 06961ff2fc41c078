def eX (k : Nat) (M M' : pz_M) : Prop := ∀ c i, c ≠ k + 7 → ¬ (c = k ∧ i = 9) → M' c i = M c i
def eY (N N' : pz_M) : Prop := ∀ c i, c ≠ 119 → N' c i = N c i
theorem eX.wr {k : Nat} {M M' : pz_M} (h : eX k M M') {i : Nat} {x : Int} : eX k M (pz_wr M' (k + 7) i x) := fun c j h1 h2 => by rw [wr_cell h1]; exact h c j h1 h2
theorem eX.wr9 {k : Nat} {M M' : pz_M} (h : eX k M M') {x : Int} : eX k M (pz_wr M' k 9 x) := fun c j h1 h2 => by
  have : pz_wr M' k 9 x c j = M' c j := by unfold pz_wr; rw [if_neg h2]
  rw [this]; exact h c j h1 h2
theorem eY.wr {N N' : pz_M} (h : eY N N') {i : Nat} {x : Int} : eY N (pz_wr N' 119 i x) := fun c j h1 => by rw [wr_cell h1]; exact h c j h1
theorem wk (M : pz_M) (k i : Nat) (x : Int) (h : M k 9 = 0) : pz_wr M (k + 7) i x k 9 = 0 := by rw [wr_cell (by omega)]; exact h
theorem seg_L {M0 N0 : pz_M} {k cs ms len : Nat} {fin : Bool} (hk : k = 13 ∨ k = 21) {ty : Nat → List Bool} {op arg : Nat → Nat} (hlast : ty len = [fin]) (hcs : cs + len < 256) (h6 : ((cs + len : Nat) : Int) < M0 k 6) (h0 : M0 (k + 4) (cs + len) = 0) (hms : ms + len ≤ 260)
    (hst : ∀ j, j < len → (ty j).length < 32 ∧ op j ≤ 12 ∧ arg j < 1048576 ∧ rl_ty ty op arg len j ∧ M0 (k + 4) (cs + j) = opX (op j) ∧ N0 114 (ms + j) = 1048576 * (op j : Int) + (if op j = 11 ∨ op j = 12 then ((ms + arg j : Nat) : Int) else (arg j : Int)) ∧ (op j ≤ 1 ∨ op j = 11 ∨ op j = 12 → M0 (k + 5) (cs + j) = if op j = 11 ∨ op j = 12 then ((cs + arg j : Nat) : Int) else (arg j : Int)))
    (hf : ∀ i, i < 10 → M0 (k + 6) i = N0 120 i) : ∀ (n j dep cnt : Nat) (M N : pz_M) (w1 w5 w6 w7 u1 u6 u7 : pz_V), len - j ≤ n → j ≤ len → dep = (ty j).length → cnt ≤ j → eX k M0 M → M k 9 = 0 → eY N0 N → (∀ i, i < dep → M (k + 7) i = N 119 i) → stV (N 119) (ty j) → ∃ r M' N', m_Law_run_12 k w1 dep ((cs + j : Nat) : Int) cnt w5 w6 w7 M = some (some (pzI r), M') ∧ m_Mod_reckonsTo_16 u1 ((ms + len : Nat) : Int) dep 0 ((ms + j : Nat) : Int) u6 u7 N = some (some (pzI r), N') ∧ eX k M0 M' ∧ eY N0 N' ∧ (fin = true → r = 0 ∨ r = 1) := by
  have hcl := (lw_cls hk).1
  have hl10 := (lw_cls hk).2
  intro n
  induction n with
  | zero =>
    intro j dep cnt M N w1 w5 w6 w7 u1 u6 u7 hn hj hd hc ex h9 ey hv hs
    have ej : j = len := by omega
    subst ej
    rw [hlast] at hd hs
    have hd1 : dep = 1 := hd
    subst hd1
    rw [m_Law_run_12_eq _ _ _ _ _ _ _ _ _ hcl, if_pos (show (cnt : Int) < 256 by omega), if_neg (show ¬ ((cs + j : Nat) : Int) < 0 by omega), ex k 6 (by omega) (by omega), if_pos h6, grd_pos (by omega), show (((cs + j : Nat) : Int)).toNat = cs + j from rfl, ex (k + 4) _ (by omega) (by omega), h0, if_pos rfl, m_Law_run_245_eq _ _ _ _ _ _ _ _ _ hcl, if_pos (show (0 : Int) < ((1 : Nat) : Int) by omega), isb_eq (by omega) (by omega), grd_pos (by omega), m_Mod_reckonsTo_16_eq, if_neg (show ¬ ((ms + j : Nat) : Int) < ((ms + j : Nat) : Int) by omega), show (((1 : Nat) : Int) - 1).toNat = 0 from rfl, hv 0 (by omega)]
    exact ⟨N 119 0, M, N, rfl, rfl, ex, ey, fun e => hs.1 e⟩
  | succ n ih =>
    intro j dep cnt M N w1 w5 w6 w7 u1 u6 u7 hn hj hd hc ex h9 ey hv hs
    by_cases ej : j = len
    · exact ih j dep cnt M N w1 w5 w6 w7 u1 u6 u7 (by omega) hj hd hc ex h9 ey hv hs
    obtain ⟨t1, t2, t3, t4, t5, t6, t7⟩ := hst j (by omega)
    have e4 : M (k + 4) (cs + j) = opX (op j) := by rw [ex (k + 4) _ (by omega) (by omega)]; exact t5
    have e5 : M (k + 5) (cs + j) = M0 (k + 5) (cs + j) := ex (k + 5) _ (by omega) (by omega)
    have e114 : N 114 (ms + j) = N0 114 (ms + j) := ey 114 _ (by omega)
    have hp : 0 < opX (op j) := by
      have : ∀ o : Fin 13, 0 < opX o.val := by decide
      exact this ⟨op j, by omega⟩
    rw [m_Law_run_12_eq _ _ _ _ _ _ _ _ _ hcl, if_pos (show (cnt : Int) < 256 by omega), if_neg (show ¬ ((cs + j : Nat) : Int) < 0 by omega), ex k 6 (by omega) (by omega), if_pos (show ((cs + j : Nat) : Int) < M0 k 6 by omega), grd_pos (by omega), show (((cs + j : Nat) : Int)).toNat = cs + j from rfl, e4, if_neg (show ¬ opX (op j) = 0 by omega), grd_pos (by omega), grd_pos (by omega), e5, m_Mod_reckonsTo_16_eq, if_pos (show ((ms + j : Nat) : Int) < ((ms + len : Nat) : Int) by omega), grd_pos (show 0 ≤ ((ms + j : Nat) : Int) ∧ ((ms + j : Nat) : Int) < 260 by omega), grd_pos (show 0 ≤ ((ms + j : Nat) : Int) ∧ ((ms + j : Nat) : Int) < 260 by omega), show (((ms + j : Nat) : Int)).toNat = ms + j from rfl, e114, ia_eq (x := ((cs + j : Nat) : Int)) (by omega) (by omega), ia_eq (x := ((ms + j : Nat) : Int)) (by omega) (by omega)]
    /- the reference's two halves of a step -/
    obtain ⟨a, ha, ha2⟩ : ∃ a : Nat, N0 114 (ms + j) = 1048576 * (op j : Int) + a ∧ a < 1048576 ∧ (op j ≤ 1 → a = arg j) ∧ (op j = 11 ∨ op j = 12 → a = ms + arg j) := by
      by_cases q : op j = 11 ∨ op j = 12
      · have : arg j ≤ len := by
          rcases t4 with ⟨x, _⟩ | ⟨x, y, _⟩ | ⟨x, y, _⟩ | ⟨x, _⟩ | ⟨_, _, x, _⟩ <;> omega
        exact ⟨ms + arg j, by rw [t6, if_pos q], by omega, by omega, fun _ => rfl⟩
      · exact ⟨arg j, by rw [t6, if_neg q], t3, fun _ => rfl, fun z => absurd z q⟩
    have hdv : idv (N0 114 (ms + j)) 1048576 = (op j : Int) := by rw [ha, idv_nn (by omega) (by omega) (by omega) (by omega)]; omega
    have hrm : irm (N0 114 (ms + j)) 1048576 = (a : Int) := by rw [ha, irm_nn (by omega) (by omega) (by omega) (by omega)]; omega
    rw [hdv, hrm]
    clear hdv hrm ha t6
    have push : ∀ (x : Int) (w5 w6 w7 u6 u7 : pz_V), ty (j + 1) = false :: ty j → ∃ r M' N', m_Law_run_99 k w1 dep (((cs + j : Nat) : Int) + 1) cnt w5 w6 w7 x dep M = some (some (pzI r), M') ∧ m_Mod_reckonsTo_16 u1 ((ms + len : Nat) : Int) (ia (dep : Int) 1) 0 (((ms + j : Nat) : Int) + 1) u6 u7 (pz_wr N 119 dep x) = some (some (pzI r), N') ∧ eX k M0 M' ∧ eY N0 N' ∧ (fin = true → r = 0 ∨ r = 1) := by
      intro x w5 w6 w7 u6 u7 hty
      clear t7 ha2 t2 t3 hp
      rw [m_Law_run_99_eq _ _ _ _ _ _ _ _ _ _ _ hcl, grd_pos (by omega), bM_eq, show ((dep : Nat) : Int).toNat = dep from rfl, m_Law_run_230_eq _ _ _ _ _ _ _ _ _ hcl, wk M k dep x h9, if_pos rfl, ia_eq (x := (dep : Int)) (by omega) (by omega), ia_eq (x := (cnt : Int)) (by omega) (by omega)]
      refine ih (j + 1) (dep + 1) (cnt + 1) _ _ w1 w5 w6 w7 u1 u6 u7 (by omega) (by omega) (by rw [hty, hd]; rfl) (by omega) ex.wr (wk M k dep x h9) ey.wr (fun i hi => ?_) ?_
      · rw [wr_at, wr_at]
        by_cases e : i = dep
        · rw [if_pos e, if_pos e]
        · rw [if_neg e, if_neg e]; exact hv i (by omega)
      · rw [hty]
        refine ⟨fun e => absurd e (by decide), stV_congr _ (fun i hi => ?_) hs⟩
        rw [wr_idx (by omega)]
    have t4' : (op j ≤ 1 ∧ ty (j + 1) = false :: ty j ∧ (op j = 1 → arg j < 10)) ∨ (∃ (s : List Bool) (b : Bool), 2 ≤ op j ∧ op j ≤ 9 ∧ (7 ≤ op j ∨ b = false) ∧ ty j = false :: false :: s ∧ ty (j + 1) = b :: s) ∨ (op j = 10 ∧ ∃ s, ty j = true :: s ∧ ty (j + 1) = true :: s) ∨ ((op j = 11 ∨ op j = 12) ∧ j < arg j ∧ arg j ≤ len ∧ ∃ s, ty j = true :: s ∧ ty (j + 1) = s ∧ ty (arg j) = true :: s) := by
      rcases t4 with x | ⟨x1, x2, s, x3, x4⟩ | ⟨x1, x2, s, x3, x4⟩ | x | x
      · exact Or.inl x
      · exact Or.inr (Or.inl ⟨s, false, x1, by omega, Or.inr rfl, x3, x4⟩)
      · exact Or.inr (Or.inl ⟨s, true, by omega, x2, Or.inl x1, x3, x4⟩)
      · exact Or.inr (Or.inr (Or.inl x))
      · exact Or.inr (Or.inr (Or.inr x))
    rcases t4' with ⟨x1, x2, x3⟩ | ⟨s, b, x1, x2, x3, x4, x5⟩ | ⟨x1, s, x3, x4⟩ | ⟨x1, x2, x3, s, x4, x5, x6⟩
    · have x5 := t7 (Or.inl x1)
      rw [if_neg (by omega)] at x5
      have ea := ha2.2.1 x1
      clear t7 ha2 hp
      rcases (show op j = 0 ∨ op j = 1 by omega) with q | q
      · rw [q, x5, ea, show opX 0 = 1 from rfl, if_neg (show ¬ (2 : Int) < 1 by omega), if_pos (show (dep : Int) < 32 by omega), if_pos rfl, if_pos (show ((0 : Nat) : Int) = 0 from rfl), m_Mod_reckonsTo_63_eq, if_pos (show ((0 : Nat) : Int) = 0 from rfl), grd_pos (show 0 ≤ (dep : Int) ∧ (dep : Int) < 260 by omega), bM_eq, show ((dep : Nat) : Int).toNat = dep from rfl]
        exact push _ _ _ _ _ _ x2
      · have x6 := x3 q
        rw [q, x5, ea, show opX 1 = 2 from rfl, if_neg (show ¬ (2 : Int) < 2 by omega), if_pos (show (dep : Int) < 32 by omega), if_neg (show ¬ (2 : Int) = 1 by omega), m_Law_factOf_eq _ _ _ hcl, if_neg (show ¬ ((arg j : Nat) : Int) < 0 by omega), hl10, if_pos (show ((arg j : Nat) : Int) < ((10 : Nat) : Int) by omega), grd_pos (show 0 ≤ ((arg j : Nat) : Int) ∧ ((arg j : Nat) : Int) < 10 by omega), bI_some, if_neg (show ¬ ((1 : Nat) : Int) = 0 by omega), if_pos (show ((1 : Nat) : Int) = 1 from rfl), m_Mod_reckonsTo_63_eq, if_neg (show ¬ ((1 : Nat) : Int) = 0 by omega), grd_pos (show 0 ≤ ((arg j : Nat) : Int) ∧ ((arg j : Nat) : Int) < 10 by omega), grd_pos (show 0 ≤ (dep : Int) ∧ (dep : Int) < 260 by omega), bM_eq, show ((dep : Nat) : Int).toNat = dep from rfl, show ((arg j : Nat) : Int).toNat = arg j from rfl, ex (k + 6) (arg j) (by omega) (by omega), hf (arg j) x6, ey 120 (arg j) (by omega)]
        exact push _ _ _ _ _ _ x2
    · clear t7 ha2 hp t3
      have hX : opX (op j) = (op j : Int) + 4 := by
        have : ∀ o : Fin 13, 2 ≤ o.val → o.val ≤ 9 → opX o.val = (o.val : Int) + 4 := by decide
        exact this ⟨op j, by omega⟩ x1 x2
      have hd2 : dep = s.length + 2 := by rw [hd, x4]; rfl
      rw [if_pos (show (2 : Int) < opX (op j) by omega), if_pos (show (5 : Int) < opX (op j) by omega), if_neg (show ¬ (dep : Int) < 2 by omega), ia_eq (x := (dep : Int)) (y := -1) (by omega) (by omega), isb_eq (x := (dep : Int) + -1) (y := 1) (by omega) (by omega), grd_pos (show 0 ≤ (dep : Int) + -1 - 1 ∧ (dep : Int) + -1 - 1 < 32 by omega), grd_pos (show 0 ≤ (dep : Int) + -1 ∧ (dep : Int) + -1 < 32 by omega), show ((dep : Int) + -1 - 1).toNat = s.length by omega, show ((dep : Int) + -1).toNat = s.length + 1 by omega, hv s.length (by omega), hv (s.length + 1) (by omega), if_neg (show ¬ (op j : Int) = 0 by omega), if_neg (show ¬ (op j : Int) = 1 by omega), if_neg (show ¬ (op j : Int) = 10 by omega), if_neg (show ¬ (op j : Int) = 11 by omega), if_neg (show ¬ (op j : Int) = 12 by omega), isb_eq (x := (dep : Int)) (y := 1) (by omega) (by omega)]
      by_cases hz : (op j = 5 ∨ op j = 6) ∧ N 119 (s.length + 1) = 0
      · rw [hz.2, join_0 hcl hz.1, bI_some, grd_pos (by omega), bM_eq, m_Law_run_230_eq _ _ _ _ _ _ _ _ _ hcl, wr_cell (show k ≠ k + 7 by omega), wr_same, if_neg (show ¬ (1 : Int) = 0 by decide)]
        have e192 : ∀ (x6 : Int) (w7 : pz_V), m_Mod_reckonsTo_192 u1 ((ms + len : Nat) : Int) ((dep : Int) - 1) 0 (((ms + j : Nat) : Int) + 1) x6 w7 N = some (some (pzI 0), N) := by
          intro x6 w7
          rw [m_Mod_reckonsTo_192_eq, grd_pos (by omega), show ((dep : Int) - 1).toNat = s.length + 1 by omega, if_pos hz.2]
        refine ⟨0, _, N, rfl, ?_, ex.wr9.wr, ey, fun _ => Or.inl rfl⟩
        rcases hz.1 with q | q
        · rw [if_pos (show (op j : Int) = 5 by omega), e192]
        · rw [if_neg (show ¬ (op j : Int) = 5 by omega), if_pos (show (op j : Int) = 6 by omega), e192]
      · obtain ⟨z, g1, g2, g3⟩ := join_ok hcl x1 x2 (N 119 s.length) (N 119 (s.length + 1)) M N (by
          by_cases e : N 119 (s.length + 1) = 0
          · right; constructor <;> (intro q; exact hz ⟨by omega, e⟩)
          · exact Or.inl e)
        have e203 : ∀ (w7 : pz_V), (if (op j : Int) = 5 then m_Mod_reckonsTo_192 u1 ((ms + len : Nat) : Int) ((dep : Int) - 1) 0 (((ms + j : Nat) : Int) + 1) (op j : Int) w7 N else if (op j : Int) = 6 then m_Mod_reckonsTo_192 u1 ((ms + len : Nat) : Int) ((dep : Int) - 1) 0 (((ms + j : Nat) : Int) + 1) (op j : Int) w7 N else m_Mod_reckonsTo_203 u1 ((ms + len : Nat) : Int) ((dep : Int) - 1) 0 (((ms + j : Nat) : Int) + 1) (op j : Int) w7 N) = m_Mod_reckonsTo_16 u1 ((ms + len : Nat) : Int) ((dep : Int) - 1) 0 (((ms + j : Nat) : Int) + 1) (pzI (op j : Int)) w7 (pz_wr N 119 s.length z) := by
          intro w7
          have e2 : m_Mod_reckonsTo_203 u1 ((ms + len : Nat) : Int) ((dep : Int) - 1) 0 (((ms + j : Nat) : Int) + 1) (op j : Int) w7 N = m_Mod_reckonsTo_16 u1 ((ms + len : Nat) : Int) ((dep : Int) - 1) 0 (((ms + j : Nat) : Int) + 1) (pzI (op j : Int)) w7 (pz_wr N 119 s.length z) := by
            rw [m_Mod_reckonsTo_203_eq, isb_eq (x := (dep : Int) - 1) (y := 1) (by omega) (by omega), grd_pos (show 0 ≤ (dep : Int) - 1 - 1 ∧ (dep : Int) - 1 - 1 < 260 by omega), grd_pos (show 0 ≤ (dep : Int) - 1 ∧ (dep : Int) - 1 < 260 by omega), show ((dep : Int) - 1 - 1).toNat = s.length by omega, show ((dep : Int) - 1).toNat = s.length + 1 by omega, g2, bI_some, grd_pos (by omega), bM_eq]
          have e1 : ∀ q : op j = 5 ∨ op j = 6, m_Mod_reckonsTo_192 u1 ((ms + len : Nat) : Int) ((dep : Int) - 1) 0 (((ms + j : Nat) : Int) + 1) (op j : Int) w7 N = m_Mod_reckonsTo_203 u1 ((ms + len : Nat) : Int) ((dep : Int) - 1) 0 (((ms + j : Nat) : Int) + 1) (op j : Int) w7 N := by
            intro q
            rw [m_Mod_reckonsTo_192_eq, grd_pos (by omega), show ((dep : Int) - 1).toNat = s.length + 1 by omega, if_neg (fun e => hz ⟨q, e⟩)]
          by_cases q5 : op j = 5
          · rw [if_pos (show (op j : Int) = 5 by omega), e1 (Or.inl q5), e2]
          · rw [if_neg (show ¬ (op j : Int) = 5 by omega)]
            by_cases q6 : op j = 6
            · rw [if_pos (show (op j : Int) = 6 by omega), e1 (Or.inr q6), e2]
            · rw [if_neg (show ¬ (op j : Int) = 6 by omega), e2]
        rw [g1, bI_some, grd_pos (by omega), bM_eq, m_Law_run_230_eq _ _ _ _ _ _ _ _ _ hcl, wk M k s.length z h9, if_pos rfl, ia_eq (x := (cnt : Int)) (by omega) (by omega), e203, show (dep : Int) + -1 = ((s.length + 1 : Nat) : Int) by omega, show (dep : Int) - 1 = ((s.length + 1 : Nat) : Int) by omega]
        refine ih (j + 1) (s.length + 1) (cnt + 1) _ _ _ _ _ _ _ _ _ (by omega) (by omega) (by rw [x5]; rfl) (by omega) ex.wr (wk M k s.length z h9) ey.wr (fun i hi => ?_) ?_
        · rw [wr_at, wr_at]
          by_cases e : i = s.length
          · rw [if_pos e, if_pos e]
          · rw [if_neg e, if_neg e]; exact hv i (by omega)
        · rw [x5]
          rw [x4] at hs
          refine ⟨fun e => ?_, stV_congr _ (fun i hi => ?_) hs.2.2⟩
          · rw [wr_same]
            exact g3 (x3.resolve_right (by rw [e]; decide))
          · rw [wr_idx (by omega)]
    · clear t7 ha2 hp t3
      have hd2 : dep = s.length + 1 := by rw [hd, x3]; rfl
      have hV := hs
      rw [x3] at hV
      have hV := hV.1 rfl
      have ed : ((dep : Int) - 1).toNat = s.length := by omega
      have nt : ∀ (z : Int) (w5 w6 w7 u6 u7 : pz_V), (z = 0 ∨ z = 1) → ∃ r M' N', m_Law_run_160 k w1 dep (((cs + j : Nat) : Int) + 1) cnt w5 w6 w7 z ((dep : Int) - 1) M = some (some (pzI r), M') ∧ m_Mod_reckonsTo_16 u1 ((ms + len : Nat) : Int) dep 0 (((ms + j : Nat) : Int) + 1) u6 u7 (pz_wr N 119 s.length z) = some (some (pzI r), N') ∧ eX k M0 M' ∧ eY N0 N' ∧ (fin = true → r = 0 ∨ r = 1) := by
        intro z w5 w6 w7 u6 u7 hz
        rw [m_Law_run_160_eq _ _ _ _ _ _ _ _ _ _ _ hcl, grd_pos (by omega), bM_eq, ed, m_Law_run_189_eq _ _ _ _ _ _ _ _ _ hcl, m_Law_run_230_eq _ _ _ _ _ _ _ _ _ hcl, wk M k s.length z h9, if_pos rfl, ia_eq (x := (cnt : Int)) (by omega) (by omega)]
        refine ih (j + 1) dep (cnt + 1) _ _ _ _ _ _ _ _ _ (by omega) (by omega) (by rw [x4, hd, x3]) (by omega) ex.wr (wk M k s.length z h9) ey.wr (fun i hi => ?_) ?_
        · rw [wr_at, wr_at]
          by_cases e : i = s.length
          · rw [if_pos e, if_pos e]
          · rw [if_neg e, if_neg e]; exact hv i (by omega)
        · rw [x4]
          rw [x3] at hs
          refine ⟨fun e => ?_, stV_congr _ (fun i hi => ?_) hs.2⟩
          · rw [wr_same]; exact hz
          · rw [wr_idx (by omega)]
      rw [x1, show opX 10 = 3 from rfl, if_pos (show (2 : Int) < 3 by decide), if_neg (show ¬ (5 : Int) < 3 by decide), if_neg (show ¬ (dep : Int) < 1 by omega), isb_eq (x := (dep : Int)) (y := 1) (by omega) (by omega), grd_pos (show 0 ≤ (dep : Int) - 1 ∧ (dep : Int) - 1 < 32 by omega), ed, hv s.length (by omega), if_neg (show ¬ ((10 : Nat) : Int) = 0 by decide), if_neg (show ¬ ((10 : Nat) : Int) = 1 by decide), if_pos (show ((10 : Nat) : Int) = 10 from rfl), grd_pos (show 0 ≤ (dep : Int) - 1 ∧ (dep : Int) - 1 < 260 by omega), grd_pos (show 0 ≤ (dep : Int) - 1 ∧ (dep : Int) - 1 < 260 by omega), bM_eq]
      rcases hV with v | v
      · rw [v, if_pos rfl, m_Law_run_135_eq _ _ _ _ _ _ _ _ _ _ hcl, if_pos rfl, if_pos rfl, isb_eq (x := (dep : Int)) (y := 1) (by omega) (by omega), show isb 1 0 = 1 from isb_eq (by decide) (by decide)]
        exact nt 1 _ _ _ _ _ (Or.inr rfl)
      · rw [v, if_neg (show ¬ (1 : Int) = 0 by decide), m_Law_run_135_eq _ _ _ _ _ _ _ _ _ _ hcl, if_pos rfl, if_neg (show ¬ (1 : Int) = 0 by decide), isb_eq (x := (dep : Int)) (y := 1) (by omega) (by omega), show isb 1 1 = 0 from isb_eq (by decide) (by decide)]
        exact nt 0 _ _ _ _ _ (Or.inl rfl)
    · have hd2 : dep = s.length + 1 := by rw [hd, x4]; rfl
      have hV := hs
      rw [x4] at hV
      have hV := hV.1 rfl
      have ed : ((dep : Int) - 1).toNat = s.length := by omega
      have x7 := t7 (Or.inr x1)
      rw [if_pos x1] at x7
      have ea := ha2.2.2 x1
      clear t7 ha2 hp t3 t2
      have jump : ∀ (w5 w6 w7 u6 u7 : pz_V), ∃ r M' N', m_Law_run_189 k w1 dep ((cs + arg j : Nat) : Int) cnt w5 w6 w7 M = some (some (pzI r), M') ∧ m_Mod_reckonsTo_16 u1 ((ms + len : Nat) : Int) dep 0 (ia 0 (a : Int)) u6 u7 N = some (some (pzI r), N') ∧ eX k M0 M' ∧ eY N0 N' ∧ (fin = true → r = 0 ∨ r = 1) := by
        intro w5 w6 w7 u6 u7
        clear x1
        rw [m_Law_run_189_eq _ _ _ _ _ _ _ _ _ hcl, m_Law_run_230_eq _ _ _ _ _ _ _ _ _ hcl, h9, if_pos rfl, ia_eq (x := (cnt : Int)) (by omega) (by omega), ia_eq (x := 0) (by omega) (by omega), Int.zero_add, ea]
        exact ih (arg j) dep (cnt + 1) M N _ _ _ _ _ _ _ (by omega) x3 (by rw [x6, hd, x4]) (by omega) ex h9 ey hv (by rw [x6, ← x4]; exact hs)
      have fall : ∀ (w5 w6 w7 u6 u7 : pz_V), ∃ r M' N', m_Law_run_189 k w1 (ia (dep : Int) (-1)) (((cs + j : Nat) : Int) + 1) cnt w5 w6 w7 M = some (some (pzI r), M') ∧ m_Mod_reckonsTo_16 u1 ((ms + len : Nat) : Int) (isb (dep : Int) 1) 0 (((ms + j : Nat) : Int) + 1) u6 u7 N = some (some (pzI r), N') ∧ eX k M0 M' ∧ eY N0 N' ∧ (fin = true → r = 0 ∨ r = 1) := by
        intro w5 w6 w7 u6 u7
        clear x1
        rw [m_Law_run_189_eq _ _ _ _ _ _ _ _ _ hcl, m_Law_run_230_eq _ _ _ _ _ _ _ _ _ hcl, h9, if_pos rfl, ia_eq (x := (cnt : Int)) (by omega) (by omega), ia_eq (x := (dep : Int)) (by omega) (by omega), isb_eq (x := (dep : Int)) (by omega) (by omega), show (dep : Int) + -1 = ((s.length : Nat) : Int) by omega, show (dep : Int) - 1 = ((s.length : Nat) : Int) by omega]
        rw [x4] at hs
        exact ih (j + 1) s.length (cnt + 1) M N _ _ _ _ _ _ _ (by omega) (by omega) (by rw [x5]) (by omega) ex h9 ey (fun i hi => hv i (by omega)) (by rw [x5]; exact hs.2)
      rcases x1 with q | q
      · rw [q, x7, show opX 11 = 4 from rfl, if_pos (show (2 : Int) < 4 by decide), if_neg (show ¬ (5 : Int) < 4 by decide), if_neg (show ¬ (dep : Int) < 1 by omega), isb_eq (x := (dep : Int)) (y := 1) (by omega) (by omega), grd_pos (show 0 ≤ (dep : Int) - 1 ∧ (dep : Int) - 1 < 32 by omega), ed, hv s.length (by omega), if_neg (show ¬ ((11 : Nat) : Int) = 0 by decide), if_neg (show ¬ ((11 : Nat) : Int) = 1 by decide), if_neg (show ¬ ((11 : Nat) : Int) = 10 by decide), if_pos (show ((11 : Nat) : Int) = 11 from rfl), m_Mod_reckonsTo_135_eq, isb_eq (x := (dep : Int)) (y := 1) (by omega) (by omega), grd_pos (show 0 ≤ (dep : Int) - 1 ∧ (dep : Int) - 1 < 260 by omega), if_neg (show ¬ ((11 : Nat) : Int) = 12 by decide), ed, m_Mod_reckonsTo_155_eq]
        rcases hV with v | v
        · rw [v, if_pos rfl, m_Law_run_135_eq _ _ _ _ _ _ _ _ _ _ hcl, if_neg (show ¬ (4 : Int) = 3 by decide), if_neg (show ¬ (4 : Int) = 5 by decide), m_Law_run_177_eq _ _ _ _ _ _ _ _ _ _ _ hcl, if_pos rfl, if_pos rfl]
          exact jump _ _ _ _ _
        · rw [v, if_neg (show ¬ (1 : Int) = 0 by decide), m_Law_run_135_eq _ _ _ _ _ _ _ _ _ _ hcl, if_neg (show ¬ (4 : Int) = 3 by decide), if_neg (show ¬ (4 : Int) = 5 by decide), m_Law_run_177_eq _ _ _ _ _ _ _ _ _ _ _ hcl, if_neg (show ¬ (1 : Int) = 0 by decide), if_neg (show ¬ (1 : Int) = 0 by decide)]
          exact fall _ _ _ _ _
      · rw [q, x7, show opX 12 = 5 from rfl, if_pos (show (2 : Int) < 5 by decide), if_neg (show ¬ (5 : Int) < 5 by decide), if_neg (show ¬ (dep : Int) < 1 by omega), isb_eq (x := (dep : Int)) (y := 1) (by omega) (by omega), grd_pos (show 0 ≤ (dep : Int) - 1 ∧ (dep : Int) - 1 < 32 by omega), ed, hv s.length (by omega), if_neg (show ¬ ((12 : Nat) : Int) = 0 by decide), if_neg (show ¬ ((12 : Nat) : Int) = 1 by decide), if_neg (show ¬ ((12 : Nat) : Int) = 10 by decide), if_neg (show ¬ ((12 : Nat) : Int) = 11 by decide), if_pos (show ((12 : Nat) : Int) = 12 from rfl), m_Mod_reckonsTo_135_eq, isb_eq (x := (dep : Int)) (y := 1) (by omega) (by omega), grd_pos (show 0 ≤ (dep : Int) - 1 ∧ (dep : Int) - 1 < 260 by omega), if_pos (show ((12 : Nat) : Int) = 12 from rfl), ed, m_Mod_reckonsTo_155_eq]
        rcases hV with v | v
        · rw [v, if_pos rfl, m_Law_run_135_eq _ _ _ _ _ _ _ _ _ _ hcl, if_neg (show ¬ (5 : Int) = 3 by decide), if_pos rfl, m_Law_run_177_eq _ _ _ _ _ _ _ _ _ _ _ hcl, if_neg (show ¬ (0 : Int) = 1 by decide), if_neg (show ¬ (0 : Int) = 1 by decide)]
          exact fall _ _ _ _ _
        · rw [v, if_neg (show ¬ (1 : Int) = 0 by decide), m_Law_run_135_eq _ _ _ _ _ _ _ _ _ _ hcl, if_neg (show ¬ (5 : Int) = 3 by decide), if_pos rfl, m_Law_run_177_eq _ _ _ _ _ _ _ _ _ _ _ hcl, if_pos rfl, if_pos rfl]
          exact jump _ _ _ _ _
