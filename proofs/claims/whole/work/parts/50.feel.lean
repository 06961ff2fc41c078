/-! ===== a day: what both know of it ===== -/
def tX (kr : Nat) (M M' : pz_M) : Prop := ∀ c i, c ≠ kr + 6 → c ≠ kr + 7 → ¬ (c = kr ∧ i = 9) → M' c i = M c i
def tY (N N' : pz_M) : Prop := ∀ c i, c ≠ 119 → c ≠ 120 → N' c i = N c i
theorem tX.rf (kr : Nat) (M : pz_M) : tX kr M M := fun _ _ _ _ _ => rfl
theorem tY.rf (N : pz_M) : tY N N := fun _ _ _ _ => rfl
theorem tX.tr {kr : Nat} {M M1 M2 : pz_M} (h : tX kr M M1) (h2 : tX kr M1 M2) : tX kr M M2 := fun c i a b d => (h2 c i a b d).trans (h c i a b d)
theorem tY.tr {N N1 N2 : pz_M} (h : tY N N1) (h2 : tY N1 N2) : tY N N2 := fun c i a b => (h2 c i a b).trans (h c i a b)
theorem eX.f {kr : Nat} {M M' : pz_M} (h : eX kr M M') : tX kr M M' := fun c i _ b d => h c i b d
theorem eY.f {N N' : pz_M} (h : eY N N') : tY N N' := fun c i a _ => h c i a
theorem tX.k1 {k : Nat} {M M' : pz_M} (h : tX k M M') (hk : k = 13 ∨ k = 21) : kX1 M M' := fun c i q => by
  unfold cX1 at q
  simp only [Bool.or_eq_true, Bool.and_eq_true, decide_eq_true_eq] at q
  exact h c i (by omega) (by omega) (by omega)
theorem tY.k1 {N N' : pz_M} (h : tY N N') : kY1 N N' := fun c i q => by
  unfold cY1 at q
  simp only [Bool.or_eq_true, Bool.and_eq_true, decide_eq_true_eq] at q
  exact h c i (by omega) (by omega)
def dpl (M N : pz_M) (k n : Nat) : Prop := ∀ c, c < n → rl_pl (M (k + 1) c) (N 101 c) (N 101 (24 + c)) ∧ M (k + 2) c = N 101 (48 + c) ∧ 0 ≤ M (k + 2) c ∧ M (k + 2) c ≤ 9999
def dcr (M N : pz_M) (k q : Nat) : Prop := ∀ p, p < 9 → M (k + 3) p = N 101 (72 + p) ∧ 0 ≤ M (k + 3) p ∧ M (k + 3) p ≤ M k 5 + (if p < q then 1 else 0)
def dnu (M N : pz_M) (k : Nat) : Prop := M k 5 = N 101 81 ∧ 0 ≤ M k 5 ∧ M k 5 < 9999 ∧ M k 6 = N 101 82 ∧ 0 ≤ M k 6 ∧ M k 6 ≤ 65535
/-- what was counted in both (D = -1: nothing is said of it) -/
def dct (M N : pz_M) (k : Nat) (D C : Int) : Prop := D = -1 ∨ (M (k + 4) 10 = D + N 100 38 ∧ sumI (M (k + 3)) 9 = C + N 100 39 ∧ 0 ≤ D ∧ D ≤ 24 ∧ 0 ≤ C ∧ C ≤ 89991)
def dst (k kc n kr nr q : Nat) (D C : Int) (M N : pz_M) : Prop := (k = 49 ∨ k = 54) ∧ rl_cases M N kc n ∧ M k 4 = n ∧ dpl M N k n ∧ dcr M N k q ∧ dnu M N k ∧ rl_load M k n ∧ rl_law M N kr nr ∧ dct M N k D C
theorem dst_f {k kc n kr nr q : Nat} {D C : Int} {M N M' N' : pz_M} (h : dst k kc n kr nr q D C M N) (hX : tX kr M M') (hY : tY N N') : dst k kc n kr nr q D C M' N' := by
  obtain ⟨h0, h1, h2, h3, h4, h5, h6, h7, h8⟩ := h
  have hk := h7.1
  have e0 : M' k = M k := funext fun i => hX _ i (by omega) (by omega) (by omega)
  have e1 : M' (k + 1) = M (k + 1) := funext fun i => hX _ i (by omega) (by omega) (by omega)
  have e2 : M' (k + 2) = M (k + 2) := funext fun i => hX _ i (by omega) (by omega) (by omega)
  have e3 : M' (k + 3) = M (k + 3) := funext fun i => hX _ i (by omega) (by omega) (by omega)
  have e4 : M' (k + 4) = M (k + 4) := funext fun i => hX _ i (by omega) (by omega) (by omega)
  have y1 : N' 101 = N 101 := funext fun i => hY _ i (by decide) (by decide)
  have y0 : N' 100 = N 100 := funext fun i => hY _ i (by decide) (by decide)
  refine ⟨h0, rl_cases_keep h1 (hX.k1 hk) hY.k1, by rw [e0]; exact h2, ?_, ?_, ?_, ?_, rl_law_keep h7 (hX.k1 hk) hY.k1, ?_⟩
  · unfold dpl at h3 ⊢; rw [e1, e2, y1]; exact h3
  · unfold dcr at h4 ⊢; rw [e3, e0, y1]; exact h4
  · unfold dnu at h5 ⊢; rw [e0, y1]; exact h5
  · unfold rl_load at h6 ⊢; rw [e4, e1]; exact h6
  · unfold dct at h8 ⊢; rw [e4, e3, y0]; exact h8
theorem cl_9 {k : Nat} (h : k = 49 ∨ k = 54) : pz_cls k = 9 := by rcases h with rfl | rfl <;> rfl
theorem cl_1 {k : Nat} (h : k = 1 ∨ k = 7) : pz_cls k = 1 := by rcases h with rfl | rfl <;> rfl
theorem cl_20 {k : Nat} (h : k = 13 ∨ k = 21) : pz_cls (k + 6) = 20 := by rcases h with rfl | rfl <;> rfl
/-- what the law knows of a bird -/
def fb (M : pz_M) (kr k p : Nat) (d : Int) : Prop := M (kr + 6) 0 = p ∧ M (kr + 6) 6 = M (k + 4) p ∧ M (kr + 6) 7 = M (k + 3) p ∧ M (kr + 6) 8 = irm (M k 5) 100 ∧ M (kr + 6) 9 = d
theorem tp_ok {k kr p : Nat} {d : Int} {M : pz_M} (hk : k = 49 ∨ k = 54) (hr : kr = 13 ∨ kr = 21) (hp : p < 9) : ∃ M', m_Terrace_tellPeacock k p d (kr + 6) M = some (none, M') ∧ fb M' kr k p d ∧ ∀ c i, c ≠ kr + 6 → M' c i = M c i := by
  have h4 : k + 4 ≠ kr + 6 := by omega
  have h3 : k + 3 ≠ kr + 6 := by omega
  have h0 : k ≠ kr + 6 := by omega
  rw [m_Terrace_tellPeacock_eq _ _ _ _ _ (cl_9 hk) (cl_20 hr), (lw_cls hr).2, grd_pos (by omega), bM_eq, grd_pos (by omega), grd_pos (by omega), bM_eq, grd_pos (by omega), grd_pos (by omega), bM_eq, grd_pos (by omega), bM_eq, grd_pos (by omega), bM_eq, show ((p : Nat) : Int).toNat = p from rfl]
  refine ⟨_, rfl, ?_, fun c i z => ?_⟩
  · unfold fb
    simp [wr_at, wr_cell h4, wr_cell h3, wr_cell h0]
  · rw [wr_cell z, wr_cell z, wr_cell z, wr_cell z, wr_cell z]
theorem tc_x {k kr kc c : Nat} {M : pz_M} (hk : k = 49 ∨ k = 54) (hr : kr = 13 ∨ kr = 21) (hkc : kc = 1 ∨ kc = 7) (hc : c < 24) : ∃ M', m_Terrace_tellCase k c kc (kr + 6) M = some (none, M') ∧ M' (kr + 6) 1 = c ∧ M' (kr + 6) 2 = M (kc + 1) c ∧ M' (kr + 6) 3 = M (kc + 2) c ∧ M' (kr + 6) 4 = M (kc + 3) c ∧ M' (kr + 6) 5 = M (k + 2) c ∧ (∀ i, i = 0 ∨ 6 ≤ i → M' (kr + 6) i = M (kr + 6) i) ∧ ∀ c i, c ≠ kr + 6 → M' c i = M c i := by
  have h1 : kc + 1 ≠ kr + 6 := by omega
  have h2 : kc + 2 ≠ kr + 6 := by omega
  have h3 : kc + 3 ≠ kr + 6 := by omega
  have h4 : k + 2 ≠ kr + 6 := by omega
  rw [m_Terrace_tellCase_eq _ _ _ _ _ (cl_9 hk) (cl_1 hkc) (cl_20 hr), (lw_cls hr).2, grd_pos (by omega), bM_eq, grd_pos (by omega), grd_pos (by omega), bM_eq, grd_pos (by omega), grd_pos (by omega), bM_eq, grd_pos (by omega), grd_pos (by omega), bM_eq, grd_pos (by omega), grd_pos (by omega), bM_eq, show ((c : Nat) : Int).toNat = c from rfl]
  refine ⟨_, rfl, ?_, ?_, ?_, ?_, ?_, fun i z => ?_, fun c i z => ?_⟩
  · simp [wr_at]
  · simp [wr_at, wr_cell h1]
  · simp [wr_at, wr_cell h2]
  · simp [wr_at, wr_cell h3]
  · simp [wr_at, wr_cell h4]
  · rw [wr_idx (by omega), wr_idx (by omega), wr_idx (by omega), wr_idx (by omega), wr_idx (by omega)]
  · rw [wr_cell z, wr_cell z, wr_cell z, wr_cell z, wr_cell z]
theorem nc_x {k kr : Nat} {M : pz_M} (hk : k = 49 ∨ k = 54) (hr : kr = 13 ∨ kr = 21) : ∃ M', m_Terrace_tellNoCase k (kr + 6) M = some (none, M') ∧ M' (kr + 6) 1 = 24 ∧ M' (kr + 6) 2 = 16 ∧ M' (kr + 6) 3 = 0 ∧ M' (kr + 6) 4 = 0 ∧ M' (kr + 6) 5 = 0 ∧ (∀ i, i = 0 ∨ 6 ≤ i → M' (kr + 6) i = M (kr + 6) i) ∧ ∀ c i, c ≠ kr + 6 → M' c i = M c i := by
  rw [m_Terrace_tellNoCase_eq _ _ _ (cl_9 hk) (cl_20 hr), (lw_cls hr).2, grd_pos (by omega), bM_eq, grd_pos (by omega), bM_eq, grd_pos (by omega), bM_eq, grd_pos (by omega), bM_eq, grd_pos (by omega), bM_eq]
  refine ⟨_, rfl, ?_, ?_, ?_, ?_, ?_, fun i z => ?_, fun c i z => ?_⟩
  · simp [wr_at]
  · simp [wr_at]
  · simp [wr_at]
  · simp [wr_at]
  · simp [wr_at]
  · rw [wr_idx (by omega), wr_idx (by omega), wr_idx (by omega), wr_idx (by omega), wr_idx (by omega)]
  · rw [wr_cell z, wr_cell z, wr_cell z, wr_cell z, wr_cell z]
/-- the reference's facts of a bird -/
def fY0 (N N' : pz_M) (n p : Nat) (d : Int) : Prop := N' 120 0 = p ∧ N' 120 6 = cntB (fun c => decide (N 101 c = 1 ∧ N 101 (24 + c) = (p : Int))) n ∧ N' 120 7 = N 101 (72 + p) ∧ N' 120 8 = irm (N 101 81) 100 ∧ N' 120 9 = d
theorem fbird_y {N : pz_M} {n p : Nat} {d : Int} (h6 : N 100 6 = n) (hn : n ≤ 24) (hp : p < 9) : ∃ N', m_Mod_feelsBird p d N = some (none, N') ∧ fY0 N N' n p d ∧ N' 120 1 = 24 ∧ N' 120 2 = 16 ∧ N' 120 3 = 0 ∧ N' 120 4 = 0 ∧ N' 120 5 = 0 ∧ ∀ c i, c ≠ 120 → N' c i = N c i := by
  rw [m_Mod_feelsBird_eq, bM_eq, bM_eq, bM_eq, bM_eq, bM_eq, bM_eq]
  obtain ⟨N1, e1, e2⟩ : ∃ N1, pz_wr (pz_wr (pz_wr (pz_wr (pz_wr (pz_wr N 120 0 (p : Int)) 120 1 24) 120 2 16) 120 3 0) 120 4 0) 120 5 0 = N1 ∧ ∀ c i, c ≠ 120 → N1 c i = N c i := ⟨_, rfl, fun c i z => by rw [wr_cell z, wr_cell z, wr_cell z, wr_cell z, wr_cell z, wr_cell z]⟩
  have f0 : N1 120 0 = p := by rw [← e1]; simp [wr_at]
  have f1 : N1 120 1 = 24 := by rw [← e1]; simp [wr_at]
  have f2 : N1 120 2 = 16 := by rw [← e1]; simp [wr_at]
  have f3 : N1 120 3 = 0 := by rw [← e1]; simp [wr_at]
  have f4 : N1 120 4 = 0 := by rw [← e1]; simp [wr_at]
  have f5 : N1 120 5 = 0 := by rw [← e1]; simp [wr_at]
  rw [e1]
  have e101 : ∀ i, N1 101 i = N 101 i := fun i => e2 101 i (by decide)
  have ef : (fun c => decide (N1 101 c = 1 ∧ N1 101 (24 + c) = (p : Int))) = fun c => decide (N 101 c = 1 ∧ N 101 (24 + c) = (p : Int)) := funext fun c => by rw [e101, e101]
  have z1 : (101 : Nat) ≠ 120 := by decide
  rw [Mod_casesOf (N := N1) (n := n) (by rw [e2 100 6 (by decide)]; exact h6) hn, bI_some, Mod_bits (mskN_31 _ (by omega)), popN_msk _ hn, bI_some, bM_eq, ia_eq (by omega) (by omega), grd_pos (by omega), bM_eq, bM_eq, bM_eq, show (72 + (p : Int)).toNat = 72 + p by omega, ef]
  refine ⟨_, rfl, ?_, ?_, ?_, ?_, ?_, ?_, fun c i z => ?_⟩
  · unfold fY0
    simp [wr_at, wr_cell z1, e101, f0]
  · simp [wr_at, f1]
  · simp [wr_at, f2]
  · simp [wr_at, f3]
  · simp [wr_at, f4]
  · simp [wr_at, f5]
  · rw [wr_cell z, wr_cell z, wr_cell z, wr_cell z]; exact e2 c i z
theorem fcase_y {N : pz_M} {n p c : Nat} {d : Int} (h6 : N 100 6 = n) (hn : n ≤ 24) (hp : p < 9) (hc : c < 24) : ∃ N', m_Mod_feelsCase p c d N = some (none, N') ∧ fY0 N N' n p d ∧ N' 120 1 = c ∧ N' 120 2 = N 104 c ∧ N' 120 3 = N 105 c ∧ N' 120 4 = N 106 c ∧ N' 120 5 = N 101 (48 + c) ∧ ∀ c i, c ≠ 120 → N' c i = N c i := by
  obtain ⟨N1, g1, g2, g3, g4, g5, g6, g7, g8⟩ := fbird_y (d := d) h6 hn hp
  rw [m_Mod_feelsCase_eq, g1, bV_some, bM_eq, grd_pos (by omega), bM_eq, grd_pos (by omega), bM_eq, grd_pos (by omega), bM_eq, ia_eq (by omega) (by omega), grd_pos (by omega), bM_eq, show (48 + (c : Int)).toNat = 48 + c by omega, show ((c : Nat) : Int).toNat = c from rfl]
  unfold fY0 at g2 ⊢
  have z1 : (101 : Nat) ≠ 120 := by decide
  have z4 : (104 : Nat) ≠ 120 := by decide
  have z5 : (105 : Nat) ≠ 120 := by decide
  have z6 : (106 : Nat) ≠ 120 := by decide
  refine ⟨_, rfl, ?_, ?_, ?_, ?_, ?_, ?_, fun c i z => ?_⟩
  · simp [wr_at, g2]
  · simp [wr_at]
  · simp [wr_at, wr_cell z4, g8 _ _ z4]
  · simp [wr_at, wr_cell z5, g8 _ _ z5]
  · simp [wr_at, wr_cell z6, g8 _ _ z6]
  · simp [wr_at, wr_cell z1, g8 _ _ z1]
  · rw [wr_cell z, wr_cell z, wr_cell z, wr_cell z, wr_cell z]; exact g8 c i z
theorem dst_cnt {k kc n kr nr q : Nat} {D C : Int} {M N : pz_M} (h : dst k kc n kr nr q D C M N) {p : Nat} (hp : p < 9) : M (k + 4) p = cntB (fun c => decide (N 101 c = 1 ∧ N 101 (24 + c) = (p : Int))) n := by
  obtain ⟨h0, h1, h2, h3, h4, h5, h6, h7, h8⟩ := h
  rw [h6 p (by omega), cntI_cntB]
  exact cntB_congr n (fun c hc => decide_eq_decide.mpr (pl_at (h3 c hc).1 (by omega) (by omega)))
theorem fb_f {M M' : pz_M} {kr k p : Nat} {d : Int} (hk : k = 49 ∨ k = 54) (hr : kr = 13 ∨ kr = 21) (h : fb M kr k p d) (h6 : ∀ i, i = 0 ∨ 6 ≤ i → M' (kr + 6) i = M (kr + 6) i) (hX : ∀ c i, c ≠ kr + 6 → M' c i = M c i) : fb M' kr k p d := by
  unfold fb at h ⊢
  rw [h6 0 (by omega), h6 6 (by omega), h6 7 (by omega), h6 8 (by omega), h6 9 (by omega), hX _ _ (show k + 4 ≠ kr + 6 by omega), hX _ _ (show k + 3 ≠ kr + 6 by omega), hX _ _ (show k ≠ kr + 6 by omega)]
  exact h
theorem fb_e {M M' : pz_M} {kr k p : Nat} {d : Int} (hk : k = 49 ∨ k = 54) (hr : kr = 13 ∨ kr = 21) (h : fb M kr k p d) (hX : eX kr M M') : fb M' kr k p d := by
  unfold fb at h ⊢
  rw [hX _ _ (show kr + 6 ≠ kr + 7 by omega) (by omega), hX _ _ (show kr + 6 ≠ kr + 7 by omega) (by omega), hX _ _ (show kr + 6 ≠ kr + 7 by omega) (by omega), hX _ _ (show kr + 6 ≠ kr + 7 by omega) (by omega), hX _ _ (show kr + 6 ≠ kr + 7 by omega) (by omega), hX _ _ (show k + 4 ≠ kr + 7 by omega) (by omega), hX _ _ (show k + 3 ≠ kr + 7 by omega) (by omega), hX _ _ (show k ≠ kr + 7 by omega) (by omega)]
  exact h
theorem tc_ok {k kc n kr nr q : Nat} {D C : Int} {M N : pz_M} (h : dst k kc n kr nr q D C M N) {p c : Nat} {d : Int} (hb : fb M kr k p d) (hp : p < 9) (hc : c < n) : ∃ M' N', m_Terrace_tellCase k c kc (kr + 6) M = some (none, M') ∧ m_Mod_feelsCase p c d N = some (none, N') ∧ (∀ i, i < 10 → M' (kr + 6) i = N' 120 i) ∧ fb M' kr k p d ∧ tX kr M M' ∧ tY N N' := by
  have hcnt := dst_cnt h hp
  obtain ⟨h0, h1, h2, h3, h4, h5, h6, h7, h8⟩ := h
  obtain ⟨c0, c1, c2, c3, c4, hn, c6, c7⟩ := h1
  obtain ⟨M1, a1, a2, a3, a4, a5, a6, a7, a8⟩ := tc_x (M := M) (c := c) h0 h7.1 c0 (by omega)
  obtain ⟨N1, b1, b2, b3, b4, b5, b6, b7, b8⟩ := fcase_y (N := N) (p := p) (c := c) (d := d) c4 hn hp (by omega)
  refine ⟨M1, N1, a1, b1, fun i hi => ?_, fb_f h0 h7.1 hb a7 a8, fun c i z _ _ => a8 c i z, fun c i _ z => b8 c i z⟩
  obtain ⟨f0, f6, f7, f8, f9⟩ := hb
  obtain ⟨g0, g6, g7, g8, g9⟩ := b2
  have w := c7 c hc
  rcases (show i = 0 ∨ i = 1 ∨ i = 2 ∨ i = 3 ∨ i = 4 ∨ i = 5 ∨ i = 6 ∨ i = 7 ∨ i = 8 ∨ i = 9 by omega) with rfl | rfl | rfl | rfl | rfl | rfl | rfl | rfl | rfl | rfl
  · rw [a7 0 (by omega), f0, g0]
  · rw [a2, b3]
  · rw [a3, b4]; exact w.1
  · rw [a4, b5]; exact w.2.2.2.1
  · rw [a5, b6]; exact w.2.2.2.2.2.2.1
  · rw [a6, b7]; exact (h3 c hc).2.1
  · rw [a7 6 (by omega), f6, g6]; exact hcnt
  · rw [a7 7 (by omega), f7, g7]; exact (h4 p hp).1
  · rw [a7 8 (by omega), f8, g8, h5.1]
  · rw [a7 9 (by omega), f9, g9]
theorem nc_ok {k kc n kr nr q : Nat} {D C : Int} {M N : pz_M} (h : dst k kc n kr nr q D C M N) {p : Nat} {d : Int} (hb : fb M kr k p d) (hp : p < 9) : ∃ M' N', m_Terrace_tellNoCase k (kr + 6) M = some (none, M') ∧ m_Mod_feelsBird p d N = some (none, N') ∧ (∀ i, i < 10 → M' (kr + 6) i = N' 120 i) ∧ fb M' kr k p d ∧ tX kr M M' ∧ tY N N' := by
  have hcnt := dst_cnt h hp
  obtain ⟨h0, h1, h2, h3, h4, h5, h6, h7, h8⟩ := h
  obtain ⟨c0, c1, c2, c3, c4, hn, c6, c7⟩ := h1
  obtain ⟨M1, a1, a2, a3, a4, a5, a6, a7, a8⟩ := nc_x (M := M) h0 h7.1
  obtain ⟨N1, b1, b2, b3, b4, b5, b6, b7, b8⟩ := fbird_y (N := N) (p := p) (d := d) c4 hn hp
  refine ⟨M1, N1, a1, b1, fun i hi => ?_, fb_f h0 h7.1 hb a7 a8, fun c i z _ _ => a8 c i z, fun c i _ z => b8 c i z⟩
  obtain ⟨f0, f6, f7, f8, f9⟩ := hb
  obtain ⟨g0, g6, g7, g8, g9⟩ := b2
  rcases (show i = 0 ∨ i = 1 ∨ i = 2 ∨ i = 3 ∨ i = 4 ∨ i = 5 ∨ i = 6 ∨ i = 7 ∨ i = 8 ∨ i = 9 by omega) with rfl | rfl | rfl | rfl | rfl | rfl | rfl | rfl | rfl | rfl
  · rw [a7 0 (by omega), f0, g0]
  · rw [a2, b3]
  · rw [a3, b4]
  · rw [a4, b5]
  · rw [a5, b6]
  · rw [a6, b7]
  · rw [a7 6 (by omega), f6, g6]; exact hcnt
  · rw [a7 7 (by omega), f7, g7]; exact (h4 p hp).1
  · rw [a7 8 (by omega), f8, g8, h5.1]
  · rw [a7 9 (by omega), f9, g9]
