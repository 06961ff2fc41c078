/-! ===== calls that change where complaints are ===== -/
theorem rl_cases_of {M N M' N' : pz_M} {kc n : Nat} (h : rl_cases M N kc n) (e0 : M' 0 0 = M 0 0) (e1 : M' 0 1 = M 0 1) (e4 : M' 49 4 = M 49 4) (hd : ∀ c i, 1 ≤ c → c ≤ 12 → M' c i = M c i) (f6 : N' 100 6 = N 100 6) (hY : ∀ c i, 104 ≤ c → c ≤ 106 → N' c i = N c i) : rl_cases M' N' kc n := by
  unfold rl_cases at h ⊢
  obtain ⟨h0, h1, h2, h3, h4, h5, h6, h7⟩ := h
  refine ⟨h0, by rw [e0]; exact h1, by rw [e1]; exact h2, by rw [e4]; exact h3, by rw [f6]; exact h4, h5, by rw [hd kc 5 (by omega) (by omega)]; exact h6, fun c hc => ?_⟩
  rw [hd (kc + 1) c (by omega) (by omega), hd (kc + 2) c (by omega) (by omega), hd (kc + 3) c (by omega) (by omega), hY 104 c (by omega) (by omega), hY 105 c (by omega) (by omega), hY 106 c (by omega) (by omega)]
  exact h7 c hc
theorem rl_kept_of {M N M' N' : pz_M} (h : rl_kept M N) (e : M' 0 13 = M 0 13) (hd : ∀ c i, 59 ≤ c → c ≤ 63 → M' c i = M c i) (f1 : N' 100 48 = N 100 48) (f2 : N' 100 49 = N 100 49) (hY : ∀ i, N' 103 i = N 103 i) : rl_kept M' N' := by
  unfold rl_kept at h ⊢
  rw [e, f1]
  refine ⟨h.1, h.2.elim Or.inl (fun q => Or.inr ⟨q.1, ?_⟩)⟩
  obtain ⟨kn, a, b, c, z⟩ := q.2
  exact ⟨kn, a, by rw [hd 59 4 (by omega) (by omega)]; exact b, by rw [f2]; exact c, rl_ter_keep z (fun i => hd _ i (by omega) (by omega)) (fun i => hd _ i (by omega) (by omega)) (fun i => hd _ i (by omega) (by omega)) (fun i => hd _ i (by omega) (by omega)) hY⟩
theorem rl_law_of {M N M' N' : pz_M} {kr n : Nat} (h : rl_law M N kr n) (e2 : M' 0 2 = M 0 2) (e3 : M' 0 3 = M 0 3) (el : ∀ k, k = 13 ∨ k = 21 → M' k 3 = M k 3 ∧ M' k 6 = M k 6) (hd : ∀ c i, (14 ≤ c ∧ c ≤ 18) ∨ (22 ≤ c ∧ c ≤ 26) → M' c i = M c i) (f : N' 100 17 = N 100 17) (hY : ∀ c i, 114 ≤ c → c ≤ 118 → N' c i = N c i) : rl_law M' N' kr n := by
  unfold rl_law at h ⊢
  obtain ⟨h0, h1, h2, h3, h4, h5, h6, h7, h8⟩ := h
  obtain ⟨e5, e6⟩ := el kr h0
  refine ⟨h0, by rw [e2]; exact h1, by rw [e3]; exact h2, by rw [e5]; exact h3, by rw [f]; exact h4, h5, by rw [e6]; exact h6, by rw [e6]; exact h7, fun r hr => ?_⟩
  obtain ⟨kd, cv, ct, mf, mh, mt, a1, a2, a3, a4, a5, a6, a7, a8, b1, b2, b3, b4, b5⟩ := h8 r hr
  refine ⟨kd, cv, ct, mf, mh, mt, a1, ?_, ?_, ?_, ?_, ?_, ?_, ?_, b1, b2, b3, fun q => rl_seg_keep (b4 q) ?_ ?_ e6 ?_, rl_seg_keep b5 ?_ ?_ e6 ?_⟩
  · rw [hd (kr + 1) r (by omega)]; exact a2
  · rw [hY 115 r (by omega) (by omega)]; exact a3
  · rw [hd (kr + 2) r (by omega)]; exact a4
  · rw [hd (kr + 3) r (by omega)]; exact a5
  · rw [hY 116 r (by omega) (by omega)]; exact a6
  · rw [hY 117 r (by omega) (by omega)]; exact a7
  · rw [hY 118 r (by omega) (by omega)]; exact a8
  · exact fun i => hd (kr + 4) i (by omega)
  · exact fun i => hd (kr + 5) i (by omega)
  · exact fun i => hY 114 i (by omega) (by omega)
  · exact fun i => hd (kr + 4) i (by omega)
  · exact fun i => hd (kr + 5) i (by omega)
  · exact fun i => hY 114 i (by omega) (by omega)
/-- only where complaints are now has changed -/
def kXn (M M' : pz_M) : Prop := (∀ c i, cX c i = true → ¬ (49 ≤ c ∧ c ≤ 53) → M' c i = M c i) ∧ M' 49 4 = M 49 4
def kYn (N N' : pz_M) : Prop := ∀ c i, cY c i = true → c ≠ 101 → N' c i = N c i
theorem kXn.rf (M : pz_M) : kXn M M := ⟨fun _ _ _ _ => rfl, rfl⟩
theorem kYn.rf (M : pz_M) : kYn M M := fun _ _ _ _ => rfl
theorem kXn.tr {M M1 M2 : pz_M} (h : kXn M M1) (h2 : kXn M1 M2) : kXn M M2 := ⟨fun c i q z => (h2.1 c i q z).trans (h.1 c i q z), h2.2.trans h.2⟩
theorem kYn.tr {M M1 M2 : pz_M} (h : kYn M M1) (h2 : kYn M1 M2) : kYn M M2 := fun c i q z => (h2 c i q z).trans (h c i q z)
theorem kX.ton {M M' : pz_M} (h : kX M M') : kXn M M' := ⟨fun c i q _ => h c i q, h 49 4 (cX_row (by omega))⟩
theorem kY.ton {M M' : pz_M} (h : kY M M') : kYn M M' := fun c i q _ => h c i q
theorem kXn.wr {M M1 : pz_M} {k j : Nat} {x : Int} (h : kXn M M1) (hc : cX k j = false ∨ (49 ≤ k ∧ k ≤ 53)) (h4 : ¬ (k = 49 ∧ j = 4)) : kXn M (pz_wr M1 k j x) := by
  refine ⟨fun c i q z => ?_, ?_⟩
  · unfold pz_wr
    rw [if_neg (fun y => by
      rcases hc with hc | hc
      · rw [y.1, y.2, hc] at q; cases q
      · exact z (by rw [y.1]; exact hc))]
    exact h.1 c i q z
  · unfold pz_wr
    rw [if_neg (fun y => h4 ⟨y.1.symm, y.2.symm⟩)]
    exact h.2
theorem kYn.wr {M M1 : pz_M} {k j : Nat} {x : Int} (h : kYn M M1) (hc : cY k j = false ∨ k = 101) : kYn M (pz_wr M1 k j x) := by
  intro c i q z
  unfold pz_wr
  rw [if_neg (fun y => by
    rcases hc with hc | hc
    · rw [y.1, y.2, hc] at q; cases q
    · exact z (by rw [y.1]; exact hc))]
  exact h c i q z
theorem rl_now {M N M' N' : pz_M} (h : rl M N) (hX : kXn M M') (hY : kYn N N') (hn : ∀ n : Nat, N 100 6 = n → n ≤ 24 → rl_ter M' N' 49 101 n ∧ rl_load M' 49 n) : rl M' N' := by
  obtain ⟨h1, ⟨kc, n, h2, h3, h4⟩, h5, ⟨kr, n2, h6⟩, h7⟩ := h
  obtain ⟨hX, hX4⟩ := hX
  have row : ∀ c i, (c = 0 ∨ c = 30 ∨ (1 ≤ c ∧ c ≤ 12) ∨ (59 ≤ c ∧ c ≤ 63) ∨ (14 ≤ c ∧ c ≤ 18) ∨ (22 ≤ c ∧ c ≤ 26)) → M' c i = M c i := fun c i z => hX c i (cX_row (by omega)) (by omega)
  have rowY : ∀ c i, (c = 103 ∨ (104 ≤ c ∧ c ≤ 107) ∨ (114 ≤ c ∧ c ≤ 118)) → N' c i = N c i := fun c i z => hY c i (cY_row (by omega)) (by omega)
  refine ⟨?_, ⟨kc, n, rl_cases_of h2 (row 0 0 (by omega)) (row 0 1 (by omega)) hX4 (fun c i a b => row c i (by omega)) (hY 100 6 rfl (by decide)) (fun c i a b => rowY c i (by omega)), ?_, ?_⟩, rl_kept_of h5 (row 0 13 (by omega)) (fun c i a b => row c i (by omega)) (hY 100 48 rfl (by decide)) (hY 100 49 rfl (by decide)) (fun i => rowY 103 i (by omega)), ⟨kr, n2, rl_law_of h6 (row 0 2 (by omega)) (row 0 3 (by omega)) (fun k hk => ⟨hX k 3 (by rcases hk with rfl | rfl <;> rfl) (by omega), hX k 6 (by rcases hk with rfl | rfl <;> rfl) (by omega)⟩) (fun c i z => row c i (by omega)) (hY 100 17 rfl (by decide)) (fun c i a b => rowY c i (by omega))⟩, ?_⟩
  · unfold rl_tape at h1 ⊢
    rw [hX 29 1 rfl (by omega), hY 100 8 rfl (by decide)]
    refine ⟨h1.1, h1.2.1, h1.2.2.1, fun i hi => ?_⟩
    rw [row 30 i (by omega), rowY 107 i (by omega)]
    exact h1.2.2.2 i hi
  · exact (hn n h2.2.2.2.2.1 h2.2.2.2.2.2.1).1
  · exact (hn n h2.2.2.2.2.1 h2.2.2.2.2.2.1).2
  · unfold pathOK at h7 ⊢
    rw [hX 42 2 rfl (by omega), hX 42 3 rfl (by omega)]
    exact h7
theorem ag_seed {M N : pz_M} (h : rl M N) (x : Int) : agree (m_Desk_seed x M) (m_Mod_seed x N) := by
  rw [m_Desk_seed_eq, m_Mod_seed_eq, Mod_in, bI_some, b01_ite]
  by_cases hx : 0 ≤ x ∧ x ≤ 65535
  · rw [if_pos hx, if_neg (show ¬ x < 0 by omega), if_neg (show ¬ 65535 < x by omega), bM_eq, bM_eq]
    refine ⟨1, _, _, rfl, rfl, rl_now h ((kXn.rf M).wr (Or.inr ⟨by decide, by decide⟩) (by decide)) ((kYn.rf N).wr (Or.inr rfl)) (fun n hn h24 => ?_)⟩
    obtain ⟨-, ⟨kc, n2, hc, hs, hl⟩, -, -, -⟩ := h
    have e : n2 = n := by have := hc.2.2.2.2.1; rw [hn] at this; omega
    subst e
    have eM : ∀ c i, c ≠ 49 → pz_wr M 49 6 x c i = M c i := fun c i z => wr_cell z
    have eN : ∀ i, i ≠ 82 → pz_wr N 101 82 x 101 i = N 101 i := fun i z => wr_idx z
    constructor
    · obtain ⟨a, b, c1, c2, c3, d1, d2, d3⟩ := hs
      refine ⟨fun c hc => ?_, fun p hp => ?_, ?_⟩
      · rw [eM _ c (by decide), eM (49 + 2) c (by decide), eN c (by omega), eN (24 + c) (by omega), eN (48 + c) (by omega)]
        exact a c hc
      · rw [eM _ p (by decide), eN (72 + p) (by omega), show pz_wr M 49 6 x 49 5 = M 49 5 from wr_idx (by decide)]
        exact b p hp
      · rw [eN 81 (by decide), wr_same, wr_same, wr_idx (M := M) (by decide)]
        exact ⟨c1, c2, c3, rfl, hx.1, hx.2⟩
    · intro q hq
      rw [wr_cell (by decide), show pz_wr M 49 6 x (49 + 1) = M (49 + 1) from funext fun i => wr_cell (by decide)]
      exact hl q hq
  · rw [if_neg hx]
    by_cases h1 : x < 0
    · rw [if_pos h1]; exact agree_same h _ rfl rfl
    · rw [if_neg h1, if_pos (show 65535 < x by omega)]; exact agree_same h _ rfl rfl
/-! one complaint moves -/
theorem cntI_wr {f : Nat → Int} {c : Nat} {v q : Int} : ∀ n, cntI (fun i => if i = c then v else f i) q n = cntI f q n + if c < n then ((if v = q then 1 else 0) - (if f c = q then 1 else 0)) else 0 := by
  intro n
  induction n with
  | zero => rfl
  | succ n ih =>
    unfold cntI
    rw [ih]
    by_cases h : n = c
    · subst h
      rw [if_neg (show ¬ n < n by omega), if_pos (show n < n + 1 by omega), if_pos (rfl : n = n)]
      omega
    · rw [if_neg h]
      by_cases hc : c < n
      · rw [if_pos hc, if_pos (show c < n + 1 by omega)]
        omega
      · rw [if_neg hc, if_neg (show ¬ c < n + 1 by omega)]
        omega
theorem cntI_le (f : Nat → Int) (q : Int) : ∀ n, 0 ≤ cntI f q n ∧ cntI f q n ≤ n := by
  intro n
  rw [cntI_cntB]
  exact cntB_le _ n
/-- the memory when complaint c goes to q -/
def gv (M : pz_M) (k c : Nat) (q : Int) : pz_M := fun a i => if a = k + 1 ∧ i = c then q else if a = k + 4 ∧ i < 11 then M (k + 4) i + (if (i : Int) = q then 1 else 0) - (if (i : Int) = M (k + 1) c then 1 else 0) else M a i
theorem gv_row {M : pz_M} {k c : Nat} {q : Int} : gv M k c q (k + 1) = fun i => if i = c then q else M (k + 1) i := by
  funext i
  unfold gv
  by_cases h : i = c
  · rw [if_pos ⟨rfl, h⟩, if_pos h]
  · rw [if_neg (fun z => h z.2), if_neg (fun z => absurd z.1 (by omega)), if_neg h]
theorem gv_else {M : pz_M} {k c a : Nat} {q : Int} (h1 : a ≠ k + 1) (h4 : a ≠ k + 4) : gv M k c q a = M a := by
  funext i
  unfold gv
  rw [if_neg (fun z => h1 z.1), if_neg (fun z => h4 z.1)]
theorem gv_row4 {M : pz_M} {k c i : Nat} {q : Int} : gv M k c q (k + 4) i = if i < 11 then M (k + 4) i + (if (i : Int) = q then 1 else 0) - (if (i : Int) = M (k + 1) c then 1 else 0) else M (k + 4) i := by
  unfold gv
  rw [if_neg (show ¬ (k + 4 = k + 1 ∧ i = c) by omega)]
  by_cases h : i < 11
  · rw [if_pos ⟨rfl, h⟩, if_pos h]
  · rw [if_neg (fun z => h z.2), if_neg h]
theorem Ter_give {M : pz_M} {k n : Nat} (hk : pz_cls k = 9) (hn : n ≤ 24) (hp : ∀ c, c < n → 0 ≤ M (k + 1) c ∧ M (k + 1) c ≤ 10) (hl : rl_load M k n) {x q : Int} (h0 : 0 ≤ x) (h1 : x < n) (q0 : 0 ≤ q) (q1 : q ≤ 10) : m_Terrace_give k x q M = some (none, gv M k x.toNat q) := by
  have hpx := hp x.toNat (by omega)
  have hl1 := hl (M (k + 1) x.toNat).toNat (by omega)
  have hl2 := hl q.toNat (by omega)
  have b1 := cntI_le (M (k + 1)) (((M (k + 1) x.toNat).toNat : Nat) : Int) n
  have b2 := cntI_le (M (k + 1)) ((q.toNat : Nat) : Int) n
  rw [← hl1] at b1
  rw [← hl2] at b2
  rw [m_Terrace_give_eq _ _ _ _ hk, grd_pos (by omega), grd_pos (by omega), grd_pos (by omega), bM_eq, grd_pos (by omega), grd_pos (by omega), bM_eq, grd_pos (by omega), bM_eq, isb_eq (by omega) (by omega)]
  congr 2
  have e2 : pz_wr M (k + 4) (M (k + 1) x.toNat).toNat (M (k + 4) (M (k + 1) x.toNat).toNat - 1) (k + 4) q.toNat = M (k + 4) q.toNat - if (q.toNat : Int) = M (k + 1) x.toNat then 1 else 0 := by
    rw [wr_at]
    by_cases h : q.toNat = (M (k + 1) x.toNat).toNat
    · rw [if_pos h, if_pos (by omega), h]
    · rw [if_neg h, if_neg (by omega)]
      omega
  have e3 : ia (pz_wr M (k + 4) (M (k + 1) x.toNat).toNat (M (k + 4) (M (k + 1) x.toNat).toNat - 1) (k + 4) q.toNat) 1 = M (k + 4) q.toNat - (if (q.toNat : Int) = M (k + 1) x.toNat then 1 else 0) + 1 := by
    rw [e2]
    exact ia_eq (by split <;> omega) (by split <;> omega)
  rw [e3]
  funext a i
  by_cases ha : a = k + 1
  · subst ha
    rw [gv_row, wr_at, wr_cell (k := k + 4) (by omega), wr_cell (k := k + 4) (by omega)]
  · rw [wr_cell ha]
    by_cases ha4 : a = k + 4
    · subst ha4
      rw [wr_at, wr_at, gv_row4]
      by_cases hi : i < 11
      · rw [if_pos hi]
        by_cases hq : i = q.toNat
        · subst hq
          rw [if_pos (rfl : q.toNat = q.toNat), if_pos (show ((q.toNat : Nat) : Int) = q by omega)]
          omega
        · rw [if_neg hq, if_neg (show ¬ (i : Int) = q by omega)]
          by_cases hz : i = (M (k + 1) x.toNat).toNat
          · rw [if_pos hz, if_pos (show (i : Int) = M (k + 1) x.toNat by omega), hz]
            omega
          · rw [if_neg hz, if_neg (show ¬ (i : Int) = M (k + 1) x.toNat by omega)]
            omega
      · rw [if_neg (show ¬ i = q.toNat by omega), if_neg (show ¬ i = (M (k + 1) x.toNat).toNat by omega), if_neg hi]
    · rw [wr_cell ha4, wr_cell ha4, gv_else ha ha4]
theorem gv_load {M : pz_M} {k c n : Nat} {q : Int} (hl : rl_load M k n) (hc : c < n) : rl_load (gv M k c q) k n := by
  intro i hi
  rw [gv_row, cntI_wr, if_pos hc, ← hl i hi, gv_row4, if_pos hi]
  by_cases h1 : (i : Int) = q <;> by_cases h2 : (i : Int) = M (k + 1) c
  · rw [if_pos h1, if_pos h2, if_pos h1.symm, if_pos h2.symm]; omega
  · rw [if_pos h1, if_neg h2, if_pos h1.symm, if_neg (fun z => h2 z.symm)]; omega
  · rw [if_neg h1, if_pos h2, if_neg (fun z => h1 z.symm), if_pos h2.symm]; omega
  · rw [if_neg h1, if_neg h2, if_neg (fun z => h1 z.symm), if_neg (fun z => h2 z.symm)]; omega
