/-! ===== how the desk's memory and the reference's belong together ===== -/
/-- so many of the first n are at q -/
def cntI (f : Nat → Int) (q : Int) : Nat → Int
  | 0 => 0
  | n + 1 => cntI f q n + if f n = q then 1 else 0
def rl_tape (M N : pz_M) : Prop := M 29 1 = N 100 8 ∧ 0 ≤ M 29 1 ∧ M 29 1 ≤ 260 ∧ ∀ i, i < 260 → -128 ≤ N 107 i ∧ N 107 i ≤ 127 ∧ M 30 i = N 107 i % 256
def rl_cases (M N : pz_M) (kc n : Nat) : Prop := (kc = 1 ∨ kc = 7) ∧ M 0 0 = kc ∧ M 0 1 = 8 - (kc : Int) ∧ M 49 4 = n ∧ N 100 6 = n ∧ n ≤ 24 ∧ M kc 5 = n ∧
  ∀ c, c < n → M (kc + 1) c = N 104 c ∧ 0 ≤ N 104 c ∧ N 104 c ≤ 15 ∧ M (kc + 2) c = N 105 c ∧ 0 ≤ N 105 c ∧ N 105 c ≤ 99 ∧ M (kc + 3) c = N 106 c ∧ 0 ≤ N 106 c ∧ N 106 c ≤ 1
/-- where a complaint is: the desk's place, the reference's state and bird -/
def rl_pl (p s b : Int) : Prop := (p = 9 ∧ s = 0) ∨ (p = 10 ∧ s = 2) ∨ (0 ≤ p ∧ p ≤ 8 ∧ s = 1 ∧ b = p)
def rl_ter (M N : pz_M) (k w n : Nat) : Prop :=
  (∀ c, c < n → rl_pl (M (k + 1) c) (N w c) (N w (24 + c)) ∧ M (k + 2) c = N w (48 + c) ∧ 0 ≤ M (k + 2) c ∧ M (k + 2) c ≤ 9999) ∧
  (∀ p, p < 9 → M (k + 3) p = N w (72 + p) ∧ 0 ≤ M (k + 3) p ∧ M (k + 3) p ≤ M k 5) ∧
  M k 5 = N w 81 ∧ 0 ≤ M k 5 ∧ M k 5 ≤ 9999 ∧ M k 6 = N w 82 ∧ 0 ≤ M k 6 ∧ M k 6 ≤ 65535
def rl_load (M : pz_M) (k n : Nat) : Prop := ∀ q, q < 11 → M (k + 4) q = cntI (M (k + 1)) q n
def rl_kept (M N : pz_M) : Prop := M 0 13 = N 100 48 ∧ (M 0 13 = 0 ∨ M 0 13 = 1 ∧ ∃ kn : Nat, kn ≤ 24 ∧ M 59 4 = kn ∧ N 100 49 = kn ∧ rl_ter M N 59 103 kn)
/-- the desk's step for the reference's -/
def opX (o : Nat) : Int := ([1, 2, 6, 7, 8, 9, 10, 11, 12, 13, 3, 4, 5] : List Int).getD o 0
/-- a stretch of steps: which kinds of values lie on the stack before each (true: a test's) -/
def rl_ty (ty : Nat → List Bool) (op arg : Nat → Nat) (len : Nat) (j : Nat) : Prop :=
  (op j ≤ 1 ∧ ty (j + 1) = false :: ty j ∧ (op j = 1 → arg j < 10)) ∨
  (2 ≤ op j ∧ op j ≤ 6 ∧ ∃ s, ty j = false :: false :: s ∧ ty (j + 1) = false :: s) ∨
  (7 ≤ op j ∧ op j ≤ 9 ∧ ∃ s, ty j = false :: false :: s ∧ ty (j + 1) = true :: s) ∨
  (op j = 10 ∧ ∃ s, ty j = true :: s ∧ ty (j + 1) = true :: s) ∨
  ((op j = 11 ∨ op j = 12) ∧ j < arg j ∧ arg j ≤ len ∧ ∃ s, ty j = true :: s ∧ ty (j + 1) = s ∧ ty (arg j) = true :: s)
/-- the same stretch in both: the desk's from cs on in the law k, the reference's from ms on; a jump's argument counts from the stretch's own start -/
def rl_seg (M N : pz_M) (k cs ms len : Nat) (fin : Bool) : Prop := ∃ (ty : Nat → List Bool) (op arg : Nat → Nat), ty 0 = [] ∧ ty len = [fin] ∧ cs + len < 256 ∧ ((cs + len : Nat) : Int) < M k 6 ∧ M (k + 4) (cs + len) = 0 ∧ ms + len ≤ 260 ∧
  ∀ j, j < len → (ty j).length < 32 ∧ op j ≤ 12 ∧ arg j < 1048576 ∧ rl_ty ty op arg len j ∧ M (k + 4) (cs + j) = opX (op j) ∧
    N 114 (ms + j) = 1048576 * (op j : Int) + (if op j = 11 ∨ op j = 12 then ((ms + arg j : Nat) : Int) else (arg j : Int)) ∧
    (op j ≤ 1 ∨ op j = 11 ∨ op j = 12 → M (k + 5) (cs + j) = if op j = 11 ∨ op j = 12 then ((cs + arg j : Nat) : Int) else (arg j : Int))
/-- the reference's letter for the desk's kind -/
def kdY (k : Nat) : Int := ([101, 107, 104, 120] : List Int).getD k 0
def rl_law (M N : pz_M) (kr n : Nat) : Prop := (kr = 13 ∨ kr = 21) ∧ M 0 2 = kr ∧ M 0 3 = 34 - (kr : Int) ∧ M kr 3 = n ∧ N 100 17 = n ∧ n ≤ 16 ∧ 0 ≤ M kr 6 ∧ M kr 6 ≤ 256 ∧
  ∀ r, r < n → ∃ kd cv ct mf mh mt : Nat, kd < 4 ∧ M (kr + 1) r = kd ∧ N 115 r = kdY kd ∧ M (kr + 2) r = cv ∧ M (kr + 3) r = ct ∧ N 116 r = mf ∧ N 117 r = mh ∧ N 118 r = mt ∧ mf ≤ mh ∧ mh ≤ mt ∧ mt ≤ 260 ∧
    (kd < 3 → rl_seg M N kr cv mf (mh - mf) false) ∧ rl_seg M N kr ct mh (mt - mh) true
def pathOK (M : pz_M) : Prop := (M 42 2 = 45 ∧ M 42 3 = 46) ∨ (M 42 2 = 46 ∧ M 42 3 = 45)
def rl (M N : pz_M) : Prop := rl_tape M N ∧ (∃ kc n, rl_cases M N kc n ∧ rl_ter M N 49 101 n ∧ rl_load M 49 n) ∧ rl_kept M N ∧ (∃ kr n, rl_law M N kr n) ∧ pathOK M
/-- what of the desk's memory outlasts a call -/
def cX (c i : Nat) : Bool := decide (c = 0) || (decide (c = 29) && decide (i = 1)) || decide (c = 30) || (decide (1 ≤ c) && decide (c ≤ 12)) || (decide (49 ≤ c) && decide (c ≤ 53)) || (decide (59 ≤ c) && decide (c ≤ 63)) || ((decide (c = 13) || decide (c = 21)) && (decide (i = 3) || decide (i = 6))) || (decide (14 ≤ c) && decide (c ≤ 18)) || (decide (22 ≤ c) && decide (c ≤ 26)) || (decide (c = 42) && (decide (i = 2) || decide (i = 3)))
/-- what of the reference's outlasts a call -/
def cY (c i : Nat) : Bool := (decide (c = 100) && (decide (i = 6) || decide (i = 8) || decide (i = 17) || decide (i = 48) || decide (i = 49))) || decide (c = 101) || decide (c = 103) || (decide (104 ≤ c) && decide (c ≤ 107)) || (decide (114 ≤ c) && decide (c ≤ 118))
def cX1 (c i : Nat) : Bool := decide (c = 0) || (decide (1 ≤ c) && decide (c ≤ 12)) || (decide (49 ≤ c) && decide (c ≤ 53)) || (decide (59 ≤ c) && decide (c ≤ 63)) || ((decide (c = 13) || decide (c = 21)) && (decide (i = 3) || decide (i = 6))) || (decide (14 ≤ c) && decide (c ≤ 18)) || (decide (22 ≤ c) && decide (c ≤ 26)) || (decide (c = 42) && (decide (i = 2) || decide (i = 3)))
def cY1 (c i : Nat) : Bool := (decide (c = 100) && (decide (i = 6) || decide (i = 17) || decide (i = 48) || decide (i = 49))) || decide (c = 101) || decide (c = 103) || (decide (104 ≤ c) && decide (c ≤ 106)) || (decide (114 ≤ c) && decide (c ≤ 118))
def kX1 (M M' : pz_M) : Prop := ∀ c i, cX1 c i = true → M' c i = M c i
def kY1 (N N' : pz_M) : Prop := ∀ c i, cY1 c i = true → N' c i = N c i
def kX (M M' : pz_M) : Prop := ∀ c i, cX c i = true → M' c i = M c i
def kY (N N' : pz_M) : Prop := ∀ c i, cY c i = true → N' c i = N c i
theorem kX.to1 {M M' : pz_M} (h : kX M M') : kX1 M M' := fun c i q => h c i (by
  unfold cX1 at q
  unfold cX
  simp only [Bool.or_eq_true, Bool.and_eq_true, decide_eq_true_eq] at q ⊢
  omega)
theorem kY.to1 {M M' : pz_M} (h : kY M M') : kY1 M M' := fun c i q => h c i (by
  unfold cY1 at q
  unfold cY
  simp only [Bool.or_eq_true, Bool.and_eq_true, decide_eq_true_eq] at q ⊢
  omega)
theorem kX1.rf (M : pz_M) : kX1 M M := fun _ _ _ => rfl
theorem kY1.rf (M : pz_M) : kY1 M M := fun _ _ _ => rfl
theorem kX1.tr {M M1 M2 : pz_M} (h : kX1 M M1) (h2 : kX1 M1 M2) : kX1 M M2 := fun c i q => (h2 c i q).trans (h c i q)
theorem kY1.tr {M M1 M2 : pz_M} (h : kY1 M M1) (h2 : kY1 M1 M2) : kY1 M M2 := fun c i q => (h2 c i q).trans (h c i q)
theorem kX1.wr {M M1 : pz_M} {k j : Nat} {x : Int} (h : kX1 M M1) (hc : cX1 k j = false) : kX1 M (pz_wr M1 k j x) := by
  intro c i q
  unfold pz_wr
  rw [if_neg (fun z => by rw [z.1, z.2, hc] at q; cases q)]
  exact h c i q
theorem kY1.wr {M M1 : pz_M} {k j : Nat} {x : Int} (h : kY1 M M1) (hc : cY1 k j = false) : kY1 M (pz_wr M1 k j x) := by
  intro c i q
  unfold pz_wr
  rw [if_neg (fun z => by rw [z.1, z.2, hc] at q; cases q)]
  exact h c i q
theorem kX.rf (M : pz_M) : kX M M := fun _ _ _ => rfl
theorem kY.rf (M : pz_M) : kY M M := fun _ _ _ => rfl
theorem kX.tr {M M1 M2 : pz_M} (h : kX M M1) (h2 : kX M1 M2) : kX M M2 := fun c i q => (h2 c i q).trans (h c i q)
theorem kY.tr {M M1 M2 : pz_M} (h : kY M M1) (h2 : kY M1 M2) : kY M M2 := fun c i q => (h2 c i q).trans (h c i q)
theorem kX.wr {M M1 : pz_M} {k j : Nat} {x : Int} (h : kX M M1) (hc : cX k j = false) : kX M (pz_wr M1 k j x) := by
  intro c i q
  unfold pz_wr
  rw [if_neg (fun z => by rw [z.1, z.2, hc] at q; cases q)]
  exact h c i q
theorem kY.wr {M M1 : pz_M} {k j : Nat} {x : Int} (h : kY M M1) (hc : cY k j = false) : kY M (pz_wr M1 k j x) := by
  intro c i q
  unfold pz_wr
  rw [if_neg (fun z => by rw [z.1, z.2, hc] at q; cases q)]
  exact h c i q
theorem cX_row {c i : Nat} (h : (c = 0 ∨ c = 30 ∨ (1 ≤ c ∧ c ≤ 12) ∨ (49 ≤ c ∧ c ≤ 53) ∨ (59 ≤ c ∧ c ≤ 63) ∨ (14 ≤ c ∧ c ≤ 18) ∨ (22 ≤ c ∧ c ≤ 26))) : cX c i = true := by
  unfold cX
  simp only [Bool.or_eq_true, Bool.and_eq_true, decide_eq_true_eq]
  omega
theorem cX1_row {c i : Nat} (h : (c = 0 ∨ (1 ≤ c ∧ c ≤ 12) ∨ (49 ≤ c ∧ c ≤ 53) ∨ (59 ≤ c ∧ c ≤ 63) ∨ (14 ≤ c ∧ c ≤ 18) ∨ (22 ≤ c ∧ c ≤ 26))) : cX1 c i = true := by
  unfold cX1
  simp only [Bool.or_eq_true, Bool.and_eq_true, decide_eq_true_eq]
  omega
theorem cY1_row {c i : Nat} (h : (c = 101 ∨ c = 103 ∨ (104 ≤ c ∧ c ≤ 106) ∨ (114 ≤ c ∧ c ≤ 118))) : cY1 c i = true := by
  unfold cY1
  simp only [Bool.or_eq_true, Bool.and_eq_true, decide_eq_true_eq]
  omega
theorem cY_row {c i : Nat} (h : (c = 101 ∨ c = 103 ∨ (104 ≤ c ∧ c ≤ 107) ∨ (114 ≤ c ∧ c ≤ 118))) : cY c i = true := by
  unfold cY
  simp only [Bool.or_eq_true, Bool.and_eq_true, decide_eq_true_eq]
  omega
theorem rl_ter_keep {M N M' N' : pz_M} {k w n : Nat} (h : rl_ter M N k w n) (h1 : ∀ i, M' (k + 1) i = M (k + 1) i) (h2 : ∀ i, M' (k + 2) i = M (k + 2) i) (h3 : ∀ i, M' (k + 3) i = M (k + 3) i) (h4 : ∀ i, M' k i = M k i) (h5 : ∀ i, N' w i = N w i) : rl_ter M' N' k w n := by
  unfold rl_ter at h ⊢
  simp only [h1, h2, h3, h4, h5]
  exact h
theorem rl_seg_keep {M N M' N' : pz_M} {k cs ms len : Nat} {fin : Bool} (h : rl_seg M N k cs ms len fin) (h1 : ∀ i, M' (k + 4) i = M (k + 4) i) (h2 : ∀ i, M' (k + 5) i = M (k + 5) i) (h3 : M' k 6 = M k 6) (h5 : ∀ i, N' 114 i = N 114 i) : rl_seg M' N' k cs ms len fin := by
  unfold rl_seg at h ⊢
  simp only [h1, h2, h3, h5]
  exact h
theorem rl_tape_keep {M N M' N' : pz_M} (h : rl_tape M N) (hX : kX M M') (hY : kY N N') : rl_tape M' N' := by
  unfold rl_tape at h ⊢
  rw [hX 29 1 rfl, hY 100 8 rfl]
  refine ⟨h.1, h.2.1, h.2.2.1, fun i hi => ?_⟩
  rw [hX 30 i (cX_row (by omega)), hY 107 i (cY_row (by omega))]
  exact h.2.2.2 i hi
theorem rl_cases_keep {M N M' N' : pz_M} {kc n : Nat} (h : rl_cases M N kc n) (hX : kX1 M M') (hY : kY1 N N') : rl_cases M' N' kc n := by
  unfold rl_cases at h ⊢
  obtain ⟨h0, h1, h2, h3, h4, h5, h6, h7⟩ := h
  refine ⟨h0, by rw [hX 0 0 rfl]; exact h1, by rw [hX 0 1 rfl]; exact h2, by rw [hX 49 4 (cX1_row (by omega))]; exact h3, by rw [hY 100 6 rfl]; exact h4, h5, by rw [hX kc 5 (cX1_row (by omega))]; exact h6, fun c hc => ?_⟩
  rw [hX (kc + 1) c (cX1_row (by omega)), hX (kc + 2) c (cX1_row (by omega)), hX (kc + 3) c (cX1_row (by omega)), hY 104 c (cY1_row (by omega)), hY 105 c (cY1_row (by omega)), hY 106 c (cY1_row (by omega))]
  exact h7 c hc
theorem rl_load_keep {M M' : pz_M} {n : Nat} (h : rl_load M 49 n) (hX : kX1 M M') : rl_load M' 49 n := by
  unfold rl_load at h ⊢
  intro q hq
  have e : M' 50 = M 50 := funext fun i => hX 50 i (cX1_row (by omega))
  rw [show (49 + 4 : Nat) = 53 from rfl, show (49 + 1 : Nat) = 50 from rfl, hX 53 q (cX1_row (by omega)), e]
  exact h q hq
theorem rl_kept_keep {M N M' N' : pz_M} (h : rl_kept M N) (hX : kX1 M M') (hY : kY1 N N') : rl_kept M' N' := by
  unfold rl_kept at h ⊢
  rw [hX 0 13 rfl, hY 100 48 rfl]
  refine ⟨h.1, h.2.elim Or.inl (fun q => Or.inr ⟨q.1, ?_⟩)⟩
  obtain ⟨kn, a, b, c, e⟩ := q.2
  refine ⟨kn, a, by rw [hX 59 4 (cX1_row (by omega))]; exact b, by rw [hY 100 49 rfl]; exact c, rl_ter_keep e (fun i => hX _ i (cX1_row (by omega))) (fun i => hX _ i (cX1_row (by omega))) (fun i => hX _ i (cX1_row (by omega))) (fun i => hX _ i (cX1_row (by omega))) (fun i => hY _ i (cY1_row (by omega)))⟩
theorem rl_law_keep {M N M' N' : pz_M} {kr n : Nat} (h : rl_law M N kr n) (hX : kX1 M M') (hY : kY1 N N') : rl_law M' N' kr n := by
  unfold rl_law at h ⊢
  obtain ⟨h0, h1, h2, h3, h4, h5, h6, h7, h8⟩ := h
  have e3 : M' kr 3 = M kr 3 := hX kr 3 (by rcases h0 with rfl | rfl <;> rfl)
  have e6 : M' kr 6 = M kr 6 := hX kr 6 (by rcases h0 with rfl | rfl <;> rfl)
  refine ⟨h0, by rw [hX 0 2 rfl]; exact h1, by rw [hX 0 3 rfl]; exact h2, by rw [e3]; exact h3, by rw [hY 100 17 rfl]; exact h4, h5, by rw [e6]; exact h6, by rw [e6]; exact h7, fun r hr => ?_⟩
  obtain ⟨kd, cv, ct, mf, mh, mt, a1, a2, a3, a4, a5, a6, a7, a8, b1, b2, b3, b4, b5⟩ := h8 r hr
  refine ⟨kd, cv, ct, mf, mh, mt, a1, ?_, ?_, ?_, ?_, ?_, ?_, ?_, b1, b2, b3, fun q => rl_seg_keep (b4 q) ?_ ?_ e6 ?_, rl_seg_keep b5 ?_ ?_ e6 ?_⟩
  · rw [hX (kr + 1) r (cX1_row (by omega))]; exact a2
  · rw [hY 115 r (cY1_row (by omega))]; exact a3
  · rw [hX (kr + 2) r (cX1_row (by omega))]; exact a4
  · rw [hX (kr + 3) r (cX1_row (by omega))]; exact a5
  · rw [hY 116 r (cY1_row (by omega))]; exact a6
  · rw [hY 117 r (cY1_row (by omega))]; exact a7
  · rw [hY 118 r (cY1_row (by omega))]; exact a8
  · exact fun i => hX (kr + 4) i (cX1_row (by omega))
  · exact fun i => hX (kr + 5) i (cX1_row (by omega))
  · exact fun i => hY 114 i (cY1_row (by omega))
  · exact fun i => hX (kr + 4) i (cX1_row (by omega))
  · exact fun i => hX (kr + 5) i (cX1_row (by omega))
  · exact fun i => hY 114 i (cY1_row (by omega))
/-- what only scratches keeps the whole relation -/
theorem rl_keep1 {M N M' N' : pz_M} (h : rl M N) (hX : kX1 M M') (hY : kY1 N N') (ht : rl_tape M' N') : rl M' N' := by
  obtain ⟨h1, ⟨kc, n, h2, h3, h4⟩, h5, ⟨kr, n2, h6⟩, h7⟩ := h
  refine ⟨ht, ⟨kc, n, rl_cases_keep h2 hX hY, rl_ter_keep h3 (fun i => hX _ i (cX1_row (by omega))) (fun i => hX _ i (cX1_row (by omega))) (fun i => hX _ i (cX1_row (by omega))) (fun i => hX _ i (cX1_row (by omega))) (fun i => hY _ i (cY1_row (by omega))), rl_load_keep h4 hX⟩, rl_kept_keep h5 hX hY, ⟨kr, n2, rl_law_keep h6 hX hY⟩, ?_⟩
  unfold pathOK at h7 ⊢
  rw [hX 42 2 rfl, hX 42 3 rfl]
  exact h7
theorem rl_keep {M N M' N' : pz_M} (h : rl M N) (hX : kX M M') (hY : kY N N') : rl M' N' := rl_keep1 h hX.to1 hY.to1 (rl_tape_keep h.1 hX hY)
/-- the two answer alike, and belong together behind it -/
def agree (a b : Option pz_A) : Prop := ∃ (r : Int) (M' N' : pz_M), a = some (some (pzI r), M') ∧ b = some (some (pzI r), N') ∧ rl M' N'
theorem agree_same {M N : pz_M} {a b : Option pz_A} (h : rl M N) (r : Int) (ha : a = some (some (pzI r), M)) (hb : b = some (some (pzI r), N)) : agree a b := ⟨r, M, N, ha, hb, h⟩
