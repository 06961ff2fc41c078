def eX (k : Nat) (M M' : pz_M) : Prop := ∀ c i, c ≠ k + 7 → ¬ (c = k ∧ i = 9) → M' c i = M c i
def eY (N N' : pz_M) : Prop := ∀ c i, c ≠ 119 → N' c i = N c i
theorem eX.wr {k : Nat} {M M' : pz_M} (h : eX k M M') {i : Nat} {x : Int} : eX k M (pz_wr M' (k + 7) i x) := fun c j h1 h2 => by rw [wr_cell h1]; exact h c j h1 h2
theorem eX.wr9 {k : Nat} {M M' : pz_M} (h : eX k M M') {x : Int} : eX k M (pz_wr M' k 9 x) := fun c j h1 h2 => by
  have : pz_wr M' k 9 x c j = M' c j := by unfold pz_wr; rw [if_neg h2]
  rw [this]; exact h c j h1 h2
theorem eY.wr {N N' : pz_M} (h : eY N N') {i : Nat} {x : Int} : eY N (pz_wr N' 119 i x) := fun c j h1 => by rw [wr_cell h1]; exact h c j h1
theorem wk (M : pz_M) (k i : Nat) (x : Int) (h : M k 9 = 0) : pz_wr M (k + 7) i x k 9 = 0 := by rw [wr_cell (by omega)]; exact h
theorem seg_L {M0 N0 : pz_M} {k cs ms len : Nat} {fin : Bool} (hk : k = 13 ∨ k = 21) {ty : Nat → List Bool} {op arg : Nat → Nat} (hlast : ty len = [fin]) (hcs : cs + len < 256) (h6 : ((cs + len : Nat) : Int) < M0 k 6) (h0 : M0 (k + 4) (cs + len) = 0) (hms : ms + len ≤ 260)
    (hst : ∀ j, j < len → (ty j).length < 32 ∧ op j ≤ 12 ∧ arg j < 1048576 ∧ rl_ty ty op arg len j ∧ M0 (k + 4) (cs + j) = opX (op j) ∧ N0 114 (ms + j) = 1048576 * (op j : Int) + (if op j = 11 ∨ op j = 12 then ((ms + arg j : Nat) : Int) else (arg j : Int)) ∧ (op j ≤ 1 ∨ op j = 11 ∨ op j = 12 → M0 (k + 5) (cs + j) = if op j = 11 ∨ op j = 12 then ((cs + arg j : Nat) : Int) else (arg j : Int)))
    (hf : ∀ i, i < 10 → M0 (k + 6) i = N0 120 i) : ∀ (n j dep cnt : Nat) (M N : pz_M) (w1 w5 w6 w7 u1 u6 u7 : pz_V), len - j ≤ n → j ≤ len → dep = (ty j).length → cnt ≤ j → eX k M0 M → M k 9 = 0 → eY N0 N → (∀ i, i < dep → M (k + 7) i = N 119 i) → stV (N 119) (ty j) → ∃ r M' N', m_Law_run_12 k w1 dep ((cs + j : Nat) : Int) cnt w5 w6 w7 M = some (some (pzI r), M') ∧ m_Mod_reckonsTo_16 u1 ((ms + len : Nat) : Int) dep 0 ((ms + j : Nat) : Int) u6 u7 N = some (some (pzI r), N') ∧ eX k M0 M' ∧ eY N0 N' ∧ (fin = true → r = 0 ∨ r = 1) := by
  have hcl := (lw_cls hk).1
  have hl10 := (lw_cls hk).2
  intro n
  induction n with
  | zero =>
    intro j dep cnt M N w1 w5 w6 w7 u1 u6 u7 hn hj hd hc ex h9 ey hv hs
    have ej : j = len := by omega
    subst ej
    rw [hlast] at hd hs
    have hd1 : dep = 1 := hd
    subst hd1
    rw [m_Law_run_12_eq _ _ _ _ _ _ _ _ _ hcl, if_pos (show (cnt : Int) < 256 by omega), if_neg (show ¬ ((cs + j : Nat) : Int) < 0 by omega), ex k 6 (by omega) (by omega), if_pos h6, grd_pos (by omega), show (((cs + j : Nat) : Int)).toNat = cs + j from rfl, ex (k + 4) _ (by omega) (by omega), h0, if_pos rfl, m_Law_run_245_eq _ _ _ _ _ _ _ _ _ hcl, if_pos (show (0 : Int) < ((1 : Nat) : Int) by omega), isb_eq (by omega) (by omega), grd_pos (by omega), m_Mod_reckonsTo_16_eq, if_neg (show ¬ ((ms + j : Nat) : Int) < ((ms + j : Nat) : Int) by omega), show (((1 : Nat) : Int) - 1).toNat = 0 from rfl, hv 0 (by omega)]
    exact ⟨N 119 0, M, N, rfl, rfl, ex, ey, fun e => hs.1 e⟩
  | succ n ih =>
    intro j dep cnt M N w1 w5 w6 w7 u1 u6 u7 hn hj hd hc ex h9 ey hv hs
    by_cases ej : j = len
    · exact ih j dep cnt M N w1 w5 w6 w7 u1 u6 u7 (by omega) hj hd hc ex h9 ey hv hs
    obtain ⟨t1, t2, t3, t4, t5, t6, t7⟩ := hst j (by omega)
    have e4 : M (k + 4) (cs + j) = opX (op j) := by rw [ex (k + 4) _ (by omega) (by omega)]; exact t5
    have e5 : M (k + 5) (cs + j) = M0 (k + 5) (cs + j) := ex (k + 5) _ (by omega) (by omega)
    have e114 : N 114 (ms + j) = N0 114 (ms + j) := ey 114 _ (by omega)
    have hp : 0 < opX (op j) := by
      have : ∀ o : Fin 13, 0 < opX o.val := by decide
      exact this ⟨op j, by omega⟩
    rw [m_Law_run_12_eq _ _ _ _ _ _ _ _ _ hcl, if_pos (show (cnt : Int) < 256 by omega), if_neg (show ¬ ((cs + j : Nat) : Int) < 0 by omega), ex k 6 (by omega) (by omega), if_pos (show ((cs + j : Nat) : Int) < M0 k 6 by omega), grd_pos (by omega), show (((cs + j : Nat) : Int)).toNat = cs + j from rfl, e4, if_neg (show ¬ opX (op j) = 0 by omega), grd_pos (by omega), grd_pos (by omega), e5, m_Mod_reckonsTo_16_eq, if_pos (show ((ms + j : Nat) : Int) < ((ms + len : Nat) : Int) by omega), grd_pos (show 0 ≤ ((ms + j : Nat) : Int) ∧ ((ms + j : Nat) : Int) < 260 by omega), grd_pos (show 0 ≤ ((ms + j : Nat) : Int) ∧ ((ms + j : Nat) : Int) < 260 by omega), show (((ms + j : Nat) : Int)).toNat = ms + j from rfl, e114, ia_eq (x := ((cs + j : Nat) : Int)) (by omega) (by omega), ia_eq (x := ((ms + j : Nat) : Int)) (by omega) (by omega)]
    /- the reference's two halves of a step -/
    obtain ⟨a, ha, ha2⟩ : ∃ a : Nat, N0 114 (ms + j) = 1048576 * (op j : Int) + a ∧ a < 1048576 ∧ (op j ≤ 1 → a = arg j) ∧ (op j = 11 ∨ op j = 12 → a = ms + arg j) := by
      by_cases q : op j = 11 ∨ op j = 12
      · have : arg j ≤ len := by
          rcases t4 with ⟨x, _⟩ | ⟨x, y, _⟩ | ⟨x, y, _⟩ | ⟨x, _⟩ | ⟨_, _, x, _⟩ <;> omega
        exact ⟨ms + arg j, by rw [t6, if_pos q], by omega, by omega, fun _ => rfl⟩
      · exact ⟨arg j, by rw [t6, if_neg q], t3, fun _ => rfl, fun z => absurd z q⟩
    have hdv : idv (N0 114 (ms + j)) 1048576 = (op j : Int) := by rw [ha, idv_nn (by omega) (by omega) (by omega) (by omega)]; omega
    have hrm : irm (N0 114 (ms + j)) 1048576 = (a : Int) := by rw [ha, irm_nn (by omega) (by omega) (by omega) (by omega)]; omega
    rw [hdv, hrm]
    have push : ∀ (x : Int) (w5 w6 w7 u6 u7 : pz_V), ty (j + 1) = false :: ty j → ∃ r M' N', m_Law_run_99 k w1 dep (((cs + j : Nat) : Int) + 1) cnt w5 w6 w7 x dep M = some (some (pzI r), M') ∧ m_Mod_reckonsTo_16 u1 ((ms + len : Nat) : Int) (ia (dep : Int) 1) 0 (((ms + j : Nat) : Int) + 1) u6 u7 (pz_wr N 119 dep x) = some (some (pzI r), N') ∧ eX k M0 M' ∧ eY N0 N' ∧ (fin = true → r = 0 ∨ r = 1) := by
      intro x w5 w6 w7 u6 u7 hty
      rw [m_Law_run_99_eq _ _ _ _ _ _ _ _ _ _ _ hcl, grd_pos (by omega), bM_eq, show ((dep : Nat) : Int).toNat = dep from rfl, m_Law_run_230_eq _ _ _ _ _ _ _ _ _ hcl, wk M k dep x h9, if_pos rfl, ia_eq (x := (dep : Int)) (by omega) (by omega), ia_eq (x := (cnt : Int)) (by omega) (by omega)]
      refine ih (j + 1) (dep + 1) (cnt + 1) _ _ w1 w5 w6 w7 u1 u6 u7 (by omega) (by omega) (by rw [hty, hd]; rfl) (by omega) ex.wr (wk M k dep x h9) ey.wr (fun i hi => ?_) ?_
      · rw [wr_at, wr_at]
        by_cases e : i = dep
        · rw [if_pos e, if_pos e]
        · rw [if_neg e, if_neg e]; exact hv i (by omega)
      · rw [hty]
        refine ⟨fun e => by cases e, stV_congr _ (fun i hi => ?_) hs⟩
        rw [wr_idx (by omega)]
    rcases t4 with ⟨x1, x2, x3⟩ | ⟨x1, x2, s, x3, x4⟩ | ⟨x1, x2, s, x3, x4⟩ | ⟨x1, s, x3, x4⟩ | ⟨x1, x2, x3, s, x4, x5, x6⟩
    · have x5 := t7 (Or.inl x1)
      rw [if_neg (by omega)] at x5
      have ea := ha2.2.1 x1
      rcases (show op j = 0 ∨ op j = 1 by omega) with q | q
      · rw [q, x5, ea, show opX 0 = 1 from rfl, if_neg (show ¬ (2 : Int) < 1 by omega), if_pos (show (dep : Int) < 32 by omega), if_pos rfl, if_pos (show ((0 : Nat) : Int) = 0 from rfl), m_Mod_reckonsTo_63_eq, if_pos (show ((0 : Nat) : Int) = 0 from rfl), grd_pos (show 0 ≤ (dep : Int) ∧ (dep : Int) < 260 by omega), bM_eq, show ((dep : Nat) : Int).toNat = dep from rfl]
        exact push _ _ _ _ _ _ x2
      · have x6 := x3 q
        rw [q, x5, ea, show opX 1 = 2 from rfl, if_neg (show ¬ (2 : Int) < 2 by omega), if_pos (show (dep : Int) < 32 by omega), if_neg (show ¬ (2 : Int) = 1 by omega), m_Law_factOf_eq _ _ _ hcl, if_neg (show ¬ ((arg j : Nat) : Int) < 0 by omega), hl10, if_pos (show ((arg j : Nat) : Int) < ((10 : Nat) : Int) by omega), grd_pos (show 0 ≤ ((arg j : Nat) : Int) ∧ ((arg j : Nat) : Int) < 10 by omega), bI_some, if_neg (show ¬ ((1 : Nat) : Int) = 0 by omega), if_pos (show ((1 : Nat) : Int) = 1 from rfl), m_Mod_reckonsTo_63_eq, if_neg (show ¬ ((1 : Nat) : Int) = 0 by omega), grd_pos (show 0 ≤ ((arg j : Nat) : Int) ∧ ((arg j : Nat) : Int) < 10 by omega), grd_pos (show 0 ≤ (dep : Int) ∧ (dep : Int) < 260 by omega), bM_eq, show ((dep : Nat) : Int).toNat = dep from rfl, show ((arg j : Nat) : Int).toNat = arg j from rfl, ex (k + 6) (arg j) (by omega) (by omega), hf (arg j) x6, ey 120 (arg j) (by omega)]
        exact push _ _ _ _ _ _ x2
    · sorry
    · sorry
    · sorry
    · sorry
