/-! ===== picked up: the call ===== -/
section
variable {W D : Nat → Int} {g : Nat → Nat} {s n : Nat} {w dl : Nat → Int} {f : Int}
theorem all_14 (hf : fea W D g s n w dl f) (hn : n ≤ 10) (hW : ∀ i, i < n + 1 → 0 ≤ W i ∧ W i ≤ 255) {cur nxt l P : Nat} {T : Nat → Int} (hc : (cur = 45 ∧ nxt = 46) ∨ (cur = 46 ∧ nxt = 45)) (h1 : TD1 W D g s n P T) (hP : 1 ≤ P) (hl : l + P ≤ n + 1) (hPn : P < n + 1) : ∀ (j h : Nat) (M : pz_M), h + j = P → GS W D n cur nxt T M → TD1 W D g s n (P + 1) (M nxt) → (∀ l' d' h', l' + P ≤ n + 1 → d' < 2 → h' < P → (l' < l ∨ (l' = l ∧ h' < h)) → don W D n P T (M nxt) l' d' h') → ∃ M' u, m_Path_growAll_14 P l h M = m_Path_growAll_2 P ((l : Int) + 1) u M' ∧ GS W D n cur nxt T M' ∧ TD1 W D g s n (P + 1) (M' nxt) ∧ (∀ l' d' h', l' + P ≤ n + 1 → d' < 2 → h' < P → l' < l + 1 → don W D n P T (M' nxt) l' d' h') ∧ ∀ c i, c ≠ nxt → M' c i = M c i := by
  intro j
  induction j with
  | zero =>
    intro h M hh hG hN hd
    rw [m_Path_growAll_14_eq, if_neg (show ¬ (h : Int) < (P : Int) by omega), ia_eq (by omega) (by omega)]
    exact ⟨M, _, rfl, hG, hN, fun l' d' h' q1 q2 q3 q4 => hd l' d' h' q1 q2 q3 (by omega), fun _ _ _ => rfl⟩
  | succ j ih =>
    intro h M hh hG hN hd
    obtain ⟨M1, a1, a2, a3, a4, a5, a6⟩ := grow_ok hf hn hW (d := 0) (h := h) hc hG h1 hP hl (by omega) (by omega) hPn hN
    obtain ⟨M2, b1, b2, b3, b4, b5, b6⟩ := grow_ok hf hn hW (d := 1) (h := h) hc a2 h1 hP hl (by omega) (by omega) hPn a5
    have a1' : m_Path_grow l P 0 h M = some (none, M1) := a1
    have b1' : m_Path_grow l P 1 h M1 = some (none, M2) := b1
    rw [m_Path_growAll_14_eq, if_pos (show (h : Int) < (P : Int) by omega), a1', bV_some, b1', bV_some, ia_eq (by omega) (by omega)]
    obtain ⟨M', u, c1, c2, c3, c4, c5⟩ := ih (h + 1) M2 (by omega) b2 b5 (fun l' d' h' q1 q2 q3 q4 => by
      by_cases e : l' = l ∧ h' = h
      · obtain ⟨e1, e2⟩ := e
        subst e1; subst e2
        rcases (show d' = 0 ∨ d' = 1 by omega) with z | z
        · subst z; exact don_mono a4 b3
        · subst z; exact b4
      · exact don_mono (don_mono (hd l' d' h' q1 q2 q3 (by omega)) a3) b3)
    exact ⟨M', u, c1, c2, c3, c4, fun c i z => by rw [c5 c i z, b6 c i z, a6 c i z]⟩
theorem all_2 (hf : fea W D g s n w dl f) (hn : n ≤ 10) (hW : ∀ i, i < n + 1 → 0 ≤ W i ∧ W i ≤ 255) {cur nxt P : Nat} {T : Nat → Int} (hc : (cur = 45 ∧ nxt = 46) ∨ (cur = 46 ∧ nxt = 45)) (h1 : TD1 W D g s n P T) (hP : 1 ≤ P) (hPn : P < n + 1) : ∀ (j l : Nat) (M : pz_M) (u : pz_V), l + P + j = n + 2 → GS W D n cur nxt T M → TD1 W D g s n (P + 1) (M nxt) → (∀ l' d' h', l' + P ≤ n + 1 → d' < 2 → h' < P → l' < l → don W D n P T (M nxt) l' d' h') → ∃ M', m_Path_growAll_2 P l u M = some (none, M') ∧ GS W D n cur nxt T M' ∧ TD1 W D g s n (P + 1) (M' nxt) ∧ (∀ l' d' h', l' + P ≤ n + 1 → d' < 2 → h' < P → don W D n P T (M' nxt) l' d' h') ∧ ∀ c i, c ≠ nxt → M' c i = M c i := by
  intro j
  induction j with
  | zero =>
    intro l M u hl hG hN hd
    rw [m_Path_growAll_2_eq, hG.2.2.1, ia_eq (by omega) (by omega), if_pos (show ((n + 1 : Nat) : Int) < (l : Int) + (P : Int) by omega)]
    exact ⟨M, rfl, hG, hN, fun l' d' h' q1 q2 q3 => hd l' d' h' q1 q2 q3 (by omega), fun _ _ _ => rfl⟩
  | succ j ih =>
    intro l M u hl hG hN hd
    rw [m_Path_growAll_2_eq, hG.2.2.1, ia_eq (by omega) (by omega), if_neg (show ¬ ((n + 1 : Nat) : Int) < (l : Int) + (P : Int) by omega)]
    obtain ⟨M1, u1, a1, a2, a3, a4, a5⟩ := all_14 hf hn hW (l := l) hc h1 hP (by omega) hPn P 0 M (by omega) hG hN (fun l' d' h' q1 q2 q3 q4 => hd l' d' h' q1 q2 q3 (by omega))
    have a1' : m_Path_growAll_14 P l 0 M = m_Path_growAll_2 P ((l : Int) + 1) u1 M1 := a1
    rw [a1']
    obtain ⟨M', b1, b2, b3, b4, b5⟩ := ih (l + 1) M1 u1 (by omega) a2 a3 a4
    exact ⟨M', b1, b2, b3, b4, fun c i z => by rw [b5 c i z, a5 c i z]⟩
theorem TD_row {P : Nat} {T T' : Nat → Int} (e : ∀ i, i < 242 → T' i = T i) (h1 : TD1 W D g s n P T) (h2 : TD2 W D g s n P T) (hn : n ≤ 10) (hP : P ≤ n + 1) : TD1 W D g s n P T' ∧ TD2 W D g s n P T' := by
  constructor
  · intro l d h q1 q2 q3 q4
    rw [e _ (sl_lt q1 q2 q3)] at q4 ⊢
    exact h1 l d h q1 q2 q3 q4
  · intro b hv hl
    obtain ⟨h, q1, q2, q3⟩ := h2 b hv hl
    have rg := vld_rg _ hv
    have sd2 : sdP b < 2 := by
      cases b with
      | nil => decide
      | cons y _ =>
        cases y with
        | false => exact (by decide : (0 : Nat) < 2)
        | true => exact (by decide : (1 : Nat) < 2)
    exact ⟨h, q1, q2, by rw [e _ (sl_lt (by omega) sd2 (by omega))]; exact q3⟩
theorem had_48 (hf : fea W D g s n w dl f) (hn : n ≤ 10) (hW : ∀ i, i < n + 1 → 0 ≤ W i ∧ W i ≤ 255) : ∀ (j P : Nat) (M : pz_M) (cur nxt : Nat) (T : Nat → Int) (u : pz_V), P + j = n + 1 → 1 ≤ P → ((cur = 45 ∧ nxt = 46) ∨ (cur = 46 ∧ nxt = 45)) → GS W D n cur nxt T M → TD1 W D g s n P T → TD2 W D g s n P T → ∃ (M' : pz_M) (cur' nxt' : Nat) (T' : Nat → Int), m_Path_mostHad_48 P u M = m_Path_mostHad_98 0 0 M' ∧ ((cur' = 45 ∧ nxt' = 46) ∨ (cur' = 46 ∧ nxt' = 45)) ∧ GS W D n cur' nxt' T' M' ∧ TD1 W D g s n (n + 1) T' ∧ TD2 W D g s n (n + 1) T' ∧ ∀ c i, c ≠ 45 → c ≠ 46 → ¬ (c = 42 ∧ (i = 2 ∨ i = 3)) → M' c i = M c i := by
  intro j
  induction j with
  | zero =>
    intro P M cur nxt T u hP hP1 hc hG h1 h2
    have e : P = n + 1 := by omega
    subst e
    rw [m_Path_mostHad_48_eq, hG.2.2.1, if_neg (show ¬ ((n + 1 : Nat) : Int) < ((n + 1 : Nat) : Int) by omega)]
    exact ⟨M, cur, nxt, T, rfl, hc, hG, h1, h2, fun _ _ _ _ _ => rfl⟩
  | succ j ih =>
    intro P M cur nxt T u hP hP1 hc hG h1 h2
    have hcl := c45 (c := nxt) (by omega)
    have hG' := hG
    obtain ⟨g1, g2, g3, g4, g5, g6⟩ := hG'
    obtain ⟨M1, f1, f2, f3⟩ := Arrays_fill (M := M) (k := nxt) hcl.1 (by rw [hcl.2]; decide) 1000000
    rw [hcl.2] at f2 f3
    have o1 : ∀ c i, c ≠ nxt → M1 c i = M c i := fun c i z => f3 c i (fun y => z y.1)
    have hG1 : GS W D n cur nxt T M1 := ⟨by rw [o1 _ _ (by omega)]; exact g1, by rw [o1 _ _ (by omega)]; exact g2, by rw [o1 _ _ (by omega)]; exact g3, fun i hi => by rw [o1 _ _ (by omega)]; exact g4 i hi, fun i hi => by rw [o1 _ _ (by omega)]; exact g5 i hi, fun i hi => by rw [o1 _ _ (by omega)]; exact g6 i hi⟩
    have hN1 : TD1 W D g s n (P + 1) (M1 nxt) := fun l d h q1 q2 q3 q4 => by
      rw [f2 _ (sl_lt q1 q2 q3)] at q4
      omega
    obtain ⟨M2, a1, a2, a3, a4, a5⟩ := all_2 hf hn hW hc h1 hP1 (by omega) (n + 2 - P) 0 M1 pzN (by omega) hG1 hN1 (fun l' d' h' _ _ _ z => by omega)
    have a1' : m_Path_growAll_2 P 0 pzN M1 = some (none, M2) := a1
    have n2 := TD2_next hf hn hW hP1 h2 a4
    rw [m_Path_mostHad_48_eq, g3, if_pos (show (P : Int) < ((n + 1 : Nat) : Int) by omega), g2, show ((nxt : Nat) : Int).toNat = nxt from rfl, f1, bV_some, m_Path_growAll_eq, a1', bV_some, a2.2.1, a2.1, show ((nxt : Nat) : Int).toNat = nxt from rfl, show ((cur : Nat) : Int).toNat = cur from rfl, grd_pos (by omega), bM_eq, grd_pos (by omega), bM_eq, ia_eq (by omega) (by omega)]
    obtain ⟨b1, b2, b3, b4, b5, b6⟩ := a2
    have o4 : ∀ c i, ¬ (c = 42 ∧ (i = 2 ∨ i = 3)) → pz_wr (pz_wr M2 42 2 (nxt : Int)) 42 3 (cur : Int) c i = M2 c i := fun c i z => by
      unfold pz_wr
      rw [if_neg (by omega), if_neg (by omega)]
    obtain ⟨M', cur', nxt', T', c1, c2, c3, c4, c5, c6⟩ := ih (P + 1) (pz_wr (pz_wr M2 42 2 (nxt : Int)) 42 3 (cur : Int)) nxt cur (M2 nxt) (pzR cur) (by omega) (by omega) (by omega) ⟨by rw [wr_idx (by decide), wr_same], by rw [wr_same], by rw [o4 _ _ (by omega)]; exact b3, fun i hi => by rw [o4 _ _ (by omega)]; exact b4 i hi, fun i hi => by rw [o4 _ _ (by omega)]; exact b5 i hi, fun i hi => by rw [o4 _ _ (by omega)]⟩ a3 n2
    exact ⟨M', cur', nxt', T', c1, c2, c3, c4, c5, fun c i z1 z2 z3 => by rw [c6 c i z1 z2 z3, o4 c i z3, a5 c i (by omega), o1 c i (by omega)]⟩
theorem had_98 {cur nxt : Nat} {T : Nat → Int} {M : pz_M} (hn : n ≤ 10) (hc : (cur = 45 ∧ nxt = 46) ∨ (cur = 46 ∧ nxt = 45)) (hG : GS W D n cur nxt T M) : ∀ (j x most : Nat), x + j = n + 1 → (most = 0 ∨ (most < x ∧ (T (sl 0 0 most) < 1000000 ∨ T (sl 0 1 most) < 1000000))) → (∀ h, h < x → (T (sl 0 0 h) < 1000000 ∨ T (sl 0 1 h) < 1000000) → h ≤ most) → ∃ r : Nat, m_Path_mostHad_98 most x M = some (some (pzI (r : Int)), M) ∧ (r = 0 ∨ (r < n + 1 ∧ (T (sl 0 0 r) < 1000000 ∨ T (sl 0 1 r) < 1000000))) ∧ ∀ h, h < n + 1 → (T (sl 0 0 h) < 1000000 ∨ T (sl 0 1 h) < 1000000) → h ≤ r := by
  have hcl := c45 (c := cur) (by omega)
  obtain ⟨g1, g2, g3, g4, g5, g6⟩ := hG
  intro j
  induction j with
  | zero =>
    intro x most hx h1 h2
    rw [m_Path_mostHad_98_eq, g3, if_neg (show ¬ (x : Int) < ((n + 1 : Nat) : Int) by omega)]
    exact ⟨most, rfl, by omega, fun h hh => h2 h (by omega)⟩
  | succ j ih =>
    intro x most hx h1 h2
    have s0 := slot_ok (l := 0) (d := 0) (h := x) (by omega) (by omega) (by omega) M
    have s1 := slot_ok (l := 0) (d := 1) (h := x) (by omega) (by omega) (by omega) M
    have s0' : m_Path_slot 0 0 (x : Int) M = some (some (pzI ((sl 0 0 x : Nat) : Int)), M) := s0
    have s1' : m_Path_slot 0 1 (x : Int) M = some (some (pzI ((sl 0 1 x : Nat) : Int)), M) := s1
    have l0 := sl_lt (l := 0) (d := 0) (h := x) (by omega) (by omega) (by omega)
    have l1 := sl_lt (l := 0) (d := 1) (h := x) (by omega) (by omega) (by omega)
    rw [m_Path_mostHad_98_eq, g3, if_pos (show (x : Int) < ((n + 1 : Nat) : Int) by omega), s0', bI_some, g1, show ((cur : Nat) : Int).toNat = cur from rfl, hcl.1, hcl.2, grd_pos ⟨rfl, by omega, by omega⟩, show (((sl 0 0 x : Nat) : Int)).toNat = sl 0 0 x from rfl, g6 _ l0, s1', bI_some, grd_pos ⟨rfl, by omega, by omega⟩, show (((sl 0 1 x : Nat) : Int)).toNat = sl 0 1 x from rfl, g6 _ l1, ia_eq (by omega) (by omega)]
    by_cases c0 : T (sl 0 0 x) < 1000000
    · rw [if_pos c0]
      exact ih (x + 1) x (by omega) (Or.inr ⟨by omega, Or.inl c0⟩) (fun h hh _ => by omega)
    · rw [if_neg c0]
      by_cases c1 : T (sl 0 1 x) < 1000000
      · rw [if_pos c1]
        exact ih (x + 1) x (by omega) (Or.inr ⟨by omega, Or.inr c1⟩) (fun h hh _ => by omega)
      · rw [if_neg c1]
        refine ih (x + 1) most (by omega) (by omega) (fun h hh hx2 => ?_)
        by_cases e : h = x
        · subst e; omega
        · exact h2 h (by omega) hx2
theorem had_11 {cur nxt : Nat} (hn : n ≤ 10) (hs : s < n + 1) (hc : (cur = 45 ∧ nxt = 46) ∨ (cur = 46 ∧ nxt = 45)) {u : pz_V} (hD : D s = -1) (hD2 : ∀ i, i < n + 1 → i ≠ s → 0 ≤ D i) : ∀ (j x : Nat) (M : pz_M), x + j = n + 1 → GS W D n cur nxt (fun i => if i = sl s 0 0 ∧ s < x then 0 else 1000000) M → ∃ M', m_Path_mostHad_11 x u M = m_Path_mostHad_48 1 u M' ∧ GS W D n cur nxt (fun i => if i = sl s 0 0 then 0 else 1000000) M' ∧ ∀ c i, c ≠ cur → M' c i = M c i := by
  have hcl := c45 (c := cur) (by omega)
  intro j
  induction j with
  | zero =>
    intro x M hx hG
    rw [m_Path_mostHad_11_eq, hG.2.2.1, if_neg (show ¬ (x : Int) < ((n + 1 : Nat) : Int) by omega)]
    obtain ⟨g1, g2, g3, g4, g5, g6⟩ := hG
    refine ⟨M, rfl, ⟨g1, g2, g3, g4, g5, fun i hi => ?_⟩, fun _ _ _ => rfl⟩
    rw [g6 i hi]
    show (if i = sl s 0 0 ∧ s < x then (0 : Int) else 1000000) = if i = sl s 0 0 then 0 else 1000000
    by_cases e : i = sl s 0 0
    · rw [if_pos ⟨e, by omega⟩, if_pos e]
    · rw [if_neg (fun z => e z.1), if_neg e]
  | succ j ih =>
    intro x M hx hG
    obtain ⟨g1, g2, g3, g4, g5, g6⟩ := hG
    rw [m_Path_mostHad_11_eq, g3, if_pos (show (x : Int) < ((n + 1 : Nat) : Int) by omega), grd_pos (by omega), show ((x : Nat) : Int).toNat = x from rfl, g5 x (by omega), ia_eq (by omega) (by omega)]
    by_cases e : x = s
    · subst e
      have sl0 := slot_ok (l := x) (d := 0) (h := 0) (by omega) (by omega) (by omega) M
      have sl0' : m_Path_slot (x : Int) 0 0 M = some (some (pzI ((sl x 0 0 : Nat) : Int)), M) := sl0
      have l0 := sl_lt (l := x) (d := 0) (h := 0) (by omega) (by omega) (by omega)
      rw [if_pos (show D x < 0 by omega), sl0', bI_some, g1, show ((cur : Nat) : Int).toNat = cur from rfl, hcl.1, hcl.2, grd_pos ⟨rfl, by omega, by omega⟩, bM_eq, show (((sl x 0 0 : Nat) : Int)).toNat = sl x 0 0 from rfl]
      obtain ⟨M', a1, a2, a3⟩ := ih (x + 1) (pz_wr M cur (sl x 0 0) 0) (by omega) ⟨by rw [wr_cell (by omega)]; exact g1, by rw [wr_cell (by omega)]; exact g2, by rw [wr_cell (by omega)]; exact g3, fun i hi => by rw [wr_cell (by omega)]; exact g4 i hi, fun i hi => by rw [wr_cell (by omega)]; exact g5 i hi, fun i hi => by
        rw [wr_at, g6 i hi]
        show (if i = sl x 0 0 then (0 : Int) else if i = sl x 0 0 ∧ x < x then 0 else 1000000) = if i = sl x 0 0 ∧ x < x + 1 then 0 else 1000000
        by_cases e : i = sl x 0 0
        · rw [if_pos e, if_pos ⟨e, by omega⟩]
        · rw [if_neg e, if_neg (fun z => e z.1), if_neg (fun z => e z.1)]⟩
      exact ⟨M', a1, a2, fun c i z => by rw [a3 c i z, wr_cell z]⟩
    · have := hD2 x (by omega) e
      rw [if_neg (show ¬ D x < 0 by omega)]
      refine ih (x + 1) M (by omega) ⟨g1, g2, g3, g4, g5, fun i hi => ?_⟩
      rw [g6 i hi]
      show (if i = sl s 0 0 ∧ s < x then (0 : Int) else 1000000) = if i = sl s 0 0 ∧ s < x + 1 then 0 else 1000000
      by_cases q : i = sl s 0 0 ∧ s < x
      · rw [if_pos q, if_pos ⟨q.1, by omega⟩]
      · rw [if_neg q, if_neg (fun z => q ⟨z.1, by omega⟩)]
/-- the desk's answer is the longest order -/
theorem most_ok (hf : fea W D g s n w dl f) (hn : n ≤ 10) (hW : ∀ i, i < n + 1 → 0 ≤ W i ∧ W i ≤ 255) (hD : D s = -1) (hD2 : ∀ i, i < n + 1 → i ≠ s → 0 ≤ D i) {M : pz_M} (hpa : pathOK M) (h4 : M 42 4 = ((n + 1 : Nat) : Int)) (hM43 : ∀ i, M 43 i = W i) (hM44 : ∀ i, M 44 i = D i) : ∃ (r : Nat) (M' : pz_M), m_Path_mostHad M = some (some (pzI (r : Int)), M') ∧ (∃ q, okR w dl f n q ∧ q.length = r) ∧ (∀ q, okR w dl f n q → q.length ≤ r) ∧ pathOK M' ∧ ∀ c i, c ≠ 45 → c ≠ 46 → ¬ (c = 42 ∧ (i = 2 ∨ i = 3)) → M' c i = M c i := by
  obtain ⟨cur, nxt, hc, e2, e3⟩ : ∃ cur nxt : Nat, ((cur = 45 ∧ nxt = 46) ∨ (cur = 46 ∧ nxt = 45)) ∧ M 42 2 = cur ∧ M 42 3 = nxt := by
    rcases hpa with ⟨a, b⟩ | ⟨a, b⟩
    · exact ⟨45, 46, Or.inl ⟨rfl, rfl⟩, a, b⟩
    · exact ⟨46, 45, Or.inr ⟨rfl, rfl⟩, a, b⟩
  have hcl := c45 (c := cur) (by omega)
  have hs := hf.1
  obtain ⟨M1, f1, f2, f3⟩ := Arrays_fill (M := M) (k := cur) hcl.1 (by rw [hcl.2]; decide) 1000000
  rw [hcl.2] at f2 f3
  have o1 : ∀ c i, c ≠ cur → M1 c i = M c i := fun c i z => f3 c i (fun y => z y.1)
  rw [m_Path_mostHad_eq, e2, show ((cur : Nat) : Int).toNat = cur from rfl, f1, bV_some]
  obtain ⟨M2, a1, a2, a3⟩ := had_11 (W := W) (D := D) (s := s) (n := n) (cur := cur) (nxt := nxt) (u := pzN) hn hs hc hD hD2 (n + 1) 0 M1 (by omega) ⟨by rw [o1 _ _ (by omega)]; exact e2, by rw [o1 _ _ (by omega)]; exact e3, by rw [o1 _ _ (by omega)]; exact h4, fun i _ => by rw [o1 _ _ (by omega)]; exact hM43 i, fun i _ => by rw [o1 _ _ (by omega)]; exact hM44 i, fun i hi => by
    rw [f2 i hi]
    show (1000000 : Int) = if i = sl s 0 0 ∧ s < 0 then 0 else 1000000
    rw [if_neg (fun z => absurd z.2 (Nat.not_lt_zero s))]⟩
  have a1' : m_Path_mostHad_11 0 pzN M1 = m_Path_mostHad_48 1 pzN M2 := a1
  have t1 : TD1 W D g s n 1 (fun i => if i = sl s 0 0 then 0 else 1000000) := by
    intro l d h q1 q2 q3 q4
    have q4' : (if sl l d h = sl s 0 0 then (0 : Int) else 1000000) < 1000000 := q4
    by_cases e : sl l d h = sl s 0 0
    · obtain ⟨z1, z2, z3⟩ := sl_inj q2 q3 (by omega) (by omega) e
      refine ⟨[], hs, rfl, z1.symm, z2.symm, z3.symm, ?_⟩
      show (0 : Int) = if sl l d h = sl s 0 0 then 0 else 1000000
      rw [if_pos e]
    · rw [if_neg e] at q4'; omega
  have t2 : TD2 W D g s n 1 (fun i => if i = sl s 0 0 then 0 else 1000000) := by
    intro b hv hl
    cases b with
    | nil =>
      refine ⟨0, Nat.le_refl 0, by omega, ?_⟩
      show (if sl s 0 0 = sl s 0 0 then (0 : Int) else 1000000) ≤ 0
      rw [if_pos rfl]; exact Int.le_refl _
    | cons x r =>
      have hl' : r.length + 1 + 1 = 1 := hl
      omega
  obtain ⟨M3, cur', nxt', T', b1, b2, b3, b4, b5, b6⟩ := had_48 hf hn hW n 1 M2 cur nxt _ pzN (by omega) (by omega) hc a2 t1 t2
  have b1' : m_Path_mostHad_48 1 pzN M2 = m_Path_mostHad_98 0 0 M3 := b1
  obtain ⟨r, c1, c2, c3⟩ := had_98 hn b2 b3 (n + 1) 0 0 (by omega) (Or.inl rfl) (fun h hh => absurd hh (Nat.not_lt_zero h))
  have c1' : m_Path_mostHad_98 0 0 M3 = some (some (pzI (r : Int)), M3) := c1
  refine ⟨r, M3, by rw [a1', b1', c1'], ?_, fun q hq => ?_, ?_, fun c i z1 z2 z3 => ?_⟩
  · rcases c2 with z | ⟨z1, z | z⟩
    · exact ⟨[], trivial, z.symm⟩
    · obtain ⟨b, y1, y2, y3, y4, y5, y6⟩ := b4 0 0 r (by omega) (by omega) (by omega) z
      exact ⟨_, (way_order hf b y1).1, y5⟩
    · obtain ⟨b, y1, y2, y3, y4, y5, y6⟩ := b4 0 1 r (by omega) (by omega) (by omega) z
      exact ⟨_, (way_order hf b y1).1, y5⟩
  · obtain ⟨b, y1, y2, y3⟩ := order_full hf hq
    obtain ⟨h, x1, x2, x3⟩ := b5 b y1 (by omega)
    have rg := vld_rg _ y1
    have tr := tm_rg hW b y1
    have lo0 : loP s b = 0 := by omega
    rw [lo0] at x3
    have fin : T' (sl 0 0 h) < 1000000 ∨ T' (sl 0 1 h) < 1000000 := by
      have sd2 : sdP b = 0 ∨ sdP b = 1 := by
        cases b with
        | nil => exact Or.inl rfl
        | cons y _ =>
          cases y with
          | false => exact Or.inl rfl
          | true => exact Or.inr rfl
      rcases sd2 with z | z
      · rw [z] at x3; left; omega
      · rw [z] at x3; right; omega
    have := c3 h x2 fin
    omega
  · rcases b2 with ⟨z1, z2⟩ | ⟨z1, z2⟩
    · exact Or.inl ⟨by rw [b3.1, z1]; rfl, by rw [b3.2.1, z2]; rfl⟩
    · exact Or.inr ⟨by rw [b3.1, z1]; rfl, by rw [b3.2.1, z2]; rfl⟩
  · rw [b6 c i z1 z2 z3, a3 c i (by omega), o1 c i (by omega)]
end
theorem rl_path {M N M' N' : pz_M} (h : rl M N) (hX : ∀ c i, cX c i = true → c ≠ 42 → M' c i = M c i) (hY : kY N N') (hp : pathOK M') : rl M' N' := by
  obtain ⟨hT, ⟨kc, n, hc, ht, hl⟩, hk, ⟨kr, nr, hw⟩, -⟩ := h
  have g : ∀ c i, (c = 0 ∨ c = 30 ∨ (1 ≤ c ∧ c ≤ 12) ∨ (49 ≤ c ∧ c ≤ 53) ∨ (59 ≤ c ∧ c ≤ 63) ∨ (14 ≤ c ∧ c ≤ 18) ∨ (22 ≤ c ∧ c ≤ 26)) → M' c i = M c i := fun c i z => hX c i (cX_row (by omega)) (by omega)
  refine ⟨?_, ⟨kc, n, ?_, rl_ter_keep ht (fun i => g _ i (by omega)) (fun i => g _ i (by omega)) (fun i => g _ i (by omega)) (fun i => g _ i (by omega)) (fun i => hY _ i (cY_row (by omega))), ?_⟩, ?_, ⟨kr, nr, ?_⟩, hp⟩
  · unfold rl_tape at hT ⊢
    rw [hX 29 1 rfl (by decide), hY 100 8 rfl]
    refine ⟨hT.1, hT.2.1, hT.2.2.1, fun i hi => ?_⟩
    rw [g 30 i (by omega), hY 107 i (cY_row (by omega))]
    exact hT.2.2.2 i hi
  · exact rl_cases_of hc (g 0 0 (by omega)) (g 0 1 (by omega)) (g 49 4 (by omega)) (fun c i a b => g c i (by omega)) (hY 100 6 rfl) (fun c i a b => hY c i (cY_row (by omega)))
  · intro q hq
    have e : M' (49 + 1) = M (49 + 1) := funext fun i => g 50 i (by omega)
    rw [g (49 + 4) q (by omega), e]
    exact hl q hq
  · exact rl_kept_of hk (g 0 13 (by omega)) (fun c i a b => g c i (by omega)) (hY 100 48 rfl) (hY 100 49 rfl) (fun i => hY 103 i (cY_row (by omega)))
  · exact rl_law_of hw (g 0 2 (by omega)) (g 0 3 (by omega)) (fun k hk => ⟨hX k 3 (by rcases hk with rfl | rfl <;> rfl) (by omega), hX k 6 (by rcases hk with rfl | rfl <;> rfl) (by omega)⟩) (fun c i z => g c i (by omega)) (hY 100 17 rfl) (fun c i a b => hY c i (cY_row (by omega)))
theorem ag_pickedUp {M N : pz_M} (h : rl M N) (x f : Int) : agree (m_Desk_pickedUp x f M) (m_Mod_pickedUp x f N) := by
  have hT := h.1
  rw [m_Desk_pickedUp_eq, m_Mod_pickedUp_eq, Mod_in, bI_some, b01_ite, Mod_in, bI_some, b01_ite]
  by_cases hx : 1 ≤ x ∧ x ≤ 10
  rotate_left
  · rw [if_neg hx]
    by_cases c : x < 1
    · rw [if_pos c]; exact agree_same h _ rfl rfl
    · rw [if_neg c, if_pos (show 10 < x by omega)]; exact agree_same h _ rfl rfl
  rw [if_pos hx, if_neg (show ¬ x < 1 by omega), if_neg (show ¬ 10 < x by omega)]
  by_cases hf : 0 ≤ f ∧ f ≤ 255
  rotate_left
  · rw [if_neg hf]
    by_cases c : f < 0
    · rw [if_pos c]; exact agree_same h _ rfl rfl
    · rw [if_neg c, if_pos (show 255 < f by omega)]; exact agree_same h _ rfl rfl
  rw [if_pos hf, if_neg (show ¬ f < 0 by omega), if_neg (show ¬ 255 < f by omega), imu_eq (by omega) (by omega), Tape_take]
  by_cases ht : 2 * x ≤ M 29 1
  rotate_left
  · rw [if_neg (show ¬ (2 ≤ 2 * x ∧ 2 * x ≤ 20 ∧ 2 * x ≤ M 29 1) by omega), bI_some, if_pos rfl, if_pos (show N 100 8 < 2 * x by rw [← hT.1]; omega)]
    exact agree_same h _ rfl rfl
  rw [if_pos (show (2 ≤ 2 * x ∧ 2 * x ≤ 20 ∧ 2 * x ≤ M 29 1) by omega), bI_some, if_neg (show ¬ (1 : Int) = 0 by omega), if_neg (show ¬ N 100 8 < 2 * x by rw [← hT.1]; omega), bM_eq]
  obtain ⟨n, en⟩ : ∃ n : Nat, x = n := ⟨x.toNat, by omega⟩
  subst en
  have h2 := rl_tk h (2 * (n : Int))
  have hb := hT.2.2.2
  have hrg : ∀ i, i < 260 → 0 ≤ M 30 i ∧ M 30 i ≤ 255 := fun i hi => by have := hb i hi; omega
  have hbt : btY (pz_wr N 100 8 0) (M 30) := fun i hi => by
    rw [wr_cell (by decide)]
    have := hb i hi
    exact ⟨this.1, this.2.1, this.2.2.symm⟩
  obtain ⟨M1, g, s, a1, a2, a3, a4, a5, a6⟩ := load_ok (t := M 30) (f := f) (n := n) (M := tk M (2 * (n : Int))) (by omega) hrg (by rw [tk_end]; omega) (fun i hi => by rw [tk_cell (by decide)])
  have hp2 := h2.2.2.2.2
  have hpa1 : pathOK M1 := by
    unfold pathOK at hp2 ⊢
    rw [a6 42 2 (by decide) (by decide) (by decide), a6 42 3 (by decide) (by decide) (by decide)]
    exact hp2
  have hW : ∀ i, i < n + 1 → 0 ≤ M1 43 i ∧ M1 43 i ≤ 255 := by
    intro i hi
    by_cases e : i = s
    · rw [e, a3.2.1]; exact hf
    · obtain ⟨q1, q2, q3⟩ := a3.2.2.2.1 i hi e
      rw [q2]; exact hrg _ (by omega)
  obtain ⟨r, M2, b1, b2, b3, b4, b5⟩ := most_ok a3 (by omega) hW a4 a5 hpa1 a2 (fun _ => rfl) (fun _ => rfl)
  obtain ⟨m', N', c1, c2, c3, c4⟩ := picked_ref (t := M 30) (f := f) (n := n) (by omega) hf (2 ^ n - 1) 1 (pz_wr N 100 8 0) 0 pzN pzN (by have := Nat.pow_pos (a := 2) (n := n) (by decide); omega) (Nat.le_refl 1) hbt (fun S' k h1 h2 => by omega) ⟨[], trivial, rfl⟩ (fun k r hr hs => by
    exfalso
    have e0 : stL (k :: r) = 0 := by omega
    have := st_mem (k :: r) k
    rw [e0, decide_eq_true List.mem_cons_self] at this
    simp at this)
  have c1' : m_Mod_pickedUp_43 n f 0 1 pzN pzN (pz_wr N 100 8 0) = some (some (pzI m'), N') := c1
  rw [a1, bV_some, b1, bI_some, c1']
  obtain ⟨q1, q2, q3⟩ := b2
  obtain ⟨u1, u2, u3⟩ := c3
  have em : m' = (r : Int) := by
    have v1 := c4 q1 q2
    have v2 := b3 u1 u2
    omega
  refine ⟨(r : Int), M2, N', rfl, by rw [em], rl_path h2 (fun c i z1 z2 => ?_) (fun c i z => ?_) b4⟩
  · have hne : c ≠ 43 ∧ c ≠ 44 ∧ c ≠ 45 ∧ c ≠ 46 := by
      unfold cX at z1
      simp only [Bool.or_eq_true, Bool.and_eq_true, decide_eq_true_eq] at z1
      omega
    rw [b5 c i hne.2.2.1 hne.2.2.2 (by omega), a6 c i hne.1 hne.2.1 (by omega)]
  · refine c2 c i ?_
    unfold cY at z
    simp only [Bool.or_eq_true, Bool.and_eq_true, decide_eq_true_eq] at z
    omega
