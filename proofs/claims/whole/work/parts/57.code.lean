/-! ===== a law is read: the steps that both have so far ===== -/
def wv (ms : Nat) (x : Nat × Nat) : Int := 1048576 * (x.1 : Int) + (if x.1 = 11 ∨ x.1 = 12 then ((ms + x.2 : Nat) : Int) else 0)
def wst (ms : Nat) (N : pz_M) : List (Nat × Nat) → Prop
  | [] => True
  | x :: r => N 109 r.length = wv ms x ∧ x.1 ≤ 14 ∧ ms + x.2 < 1000 ∧ wst ms N r
/-- entries that a step may yet come of -/
def wl : List (Nat × Nat) → Nat
  | [] => 0
  | x :: r => wl r + if x.1 = 11 ∨ x.1 = 12 then 0 else 1
theorem wst_cg {ms : Nat} {N N' : pz_M} : ∀ W : List (Nat × Nat), (∀ i, i < W.length → N' 109 i = N 109 i) → wst ms N W → wst ms N' W := by
  intro W
  induction W with
  | nil => intro _ _; trivial
  | cons x r ih =>
    intro h hw
    exact ⟨by rw [h r.length (by show r.length < r.length + 1; omega)]; exact hw.1, hw.2.1, hw.2.2.1, ih (fun i hi => h i (by show i < r.length + 1; omega)) hw.2.2.2⟩
theorem wv_div {ms : Nat} {x : Nat × Nat} (h1 : x.1 ≤ 14) (h2 : ms + x.2 < 1000) : idv (wv ms x) 1048576 = (x.1 : Int) := by
  unfold wv
  split
  · rw [idv_nn (by omega) (by omega) (by omega) (by omega)]; omega
  · rw [idv_nn (by omega) (by omega) (by omega) (by omega)]; omega
theorem wv_mod {ms : Nat} {x : Nat × Nat} (h1 : x.1 ≤ 14) (h2 : ms + x.2 < 1000) (h3 : x.1 = 11 ∨ x.1 = 12) : irm (wv ms x) 1048576 = ((ms + x.2 : Nat) : Int) := by
  unfold wv
  rw [if_pos h3, irm_nn (by omega) (by omega) (by omega) (by omega)]
  omega
/-- what a step does to the kinds of values on the stack -/
def tr (o a : Nat) (s s' : List Bool) : Prop := (o ≤ 1 ∧ s' = false :: s ∧ (o = 1 → a < 10)) ∨ (2 ≤ o ∧ o ≤ 6 ∧ ∃ r, s = false :: false :: r ∧ s' = false :: r) ∨ (7 ≤ o ∧ o ≤ 9 ∧ ∃ r, s = false :: false :: r ∧ s' = true :: r) ∨ (o = 10 ∧ ∃ r, s = true :: r ∧ s' = true :: r)
def cdj (ks cs ms : Nat) (M N : pz_M) (L : Nat) (W : List (Nat × Nat)) (ty : Nat → List Bool) (op arg : Nat → Nat) (j : Nat) : Prop := (ty j).length < 32 ∧ M (ks + 4) (cs + j) = opX (op j) ∧ arg j < 1048576 ∧
  ((op j ≤ 10 ∧ tr (op j) (arg j) (ty j) (ty (j + 1)) ∧ N 108 (ms + j) = 1048576 * (op j : Int) + (arg j : Int) ∧ (op j ≤ 1 → M (ks + 5) (cs + j) = (arg j : Int))) ∨
   ((op j = 11 ∨ op j = 12) ∧ ty j = [true] ∧ ty (j + 1) = [] ∧ (((op j, j) ∈ W ∧ N 108 (ms + j) = 1048576 * (op j : Int)) ∨ (j < arg j ∧ arg j ≤ L ∧ ty (arg j) = [true] ∧ N 108 (ms + j) = 1048576 * (op j : Int) + ((ms + arg j : Nat) : Int) ∧ M (ks + 5) (cs + j) = ((cs + arg j : Nat) : Int)))))
def CR (ks cs ms : Nat) (M N : pz_M) (L : Nat) (W : List (Nat × Nat)) (ty : Nat → List Bool) (op arg : Nat → Nat) : Prop := M ks 6 = ((cs + L : Nat) : Int) ∧ N 100 14 = ((ms + L : Nat) : Int) ∧ (∀ k j, (k, j) ∈ W → (k = 11 ∨ k = 12) → j < L ∧ op j = k) ∧ ∀ j, j < L → cdj ks cs ms M N L W ty op arg j
/-- the steps stay as they are while other cells, and what waits beside them, change -/
theorem CR_keep {ks cs ms : Nat} {M N M' N' : pz_M} {L : Nat} {W W' : List (Nat × Nat)} {ty : Nat → List Bool} {op arg : Nat → Nat} (h : CR ks cs ms M N L W ty op arg) (e6 : M' ks 6 = M ks 6) (f14 : N' 100 14 = N 100 14) (e4 : ∀ i, M' (ks + 4) i = M (ks + 4) i) (e5 : ∀ i, M' (ks + 5) i = M (ks + 5) i) (f8 : ∀ i, N' 108 i = N 108 i) (hW : ∀ k j, (k = 11 ∨ k = 12) → ((k, j) ∈ W' ↔ (k, j) ∈ W)) : CR ks cs ms M' N' L W' ty op arg := by
  obtain ⟨h1, h2, h3, h4⟩ := h
  refine ⟨by rw [e6]; exact h1, by rw [f14]; exact h2, fun k j q z => h3 k j ((hW k j z).mp q) z, fun j hj => ?_⟩
  obtain ⟨a1, a2, a3, a4⟩ := h4 j hj
  refine ⟨a1, by rw [e4]; exact a2, a3, ?_⟩
  rw [f8, e5]
  rcases a4 with a4 | ⟨b1, b2, b3, b4⟩
  · exact Or.inl a4
  · refine Or.inr ⟨b1, b2, b3, ?_⟩
    rcases b4 with ⟨c1, c2⟩ | c
    · exact Or.inl ⟨(hW _ _ b1).mpr c1, c2⟩
    · exact Or.inr c
/-- one step more -/
theorem CR_ext {ks cs ms : Nat} {M N M' N' : pz_M} {L : Nat} {W W' : List (Nat × Nat)} {ty : Nat → List Bool} {op arg : Nat → Nat} {cur cur' : List Bool} {o a : Nat} (h : CR ks cs ms M N L W ty op arg) (hcur : ty L = cur) (hl : cur.length < 32) (e6 : M' ks 6 = ((cs + (L + 1) : Nat) : Int)) (f14 : N' 100 14 = ((ms + (L + 1) : Nat) : Int)) (e4 : M' (ks + 4) (cs + L) = opX o) (ha : a < 1048576) (hX : ∀ j, j < L → M' (ks + 4) (cs + j) = M (ks + 4) (cs + j) ∧ M' (ks + 5) (cs + j) = M (ks + 5) (cs + j)) (hY : ∀ j, j < L → N' 108 (ms + j) = N 108 (ms + j)) (hW : ∀ k j, (k = 11 ∨ k = 12) → ((k, j) ∈ W' ↔ (k, j) ∈ W ∨ ((o = 11 ∨ o = 12) ∧ k = o ∧ j = L))) (hnew : (o ≤ 10 ∧ tr o a cur cur' ∧ N' 108 (ms + L) = 1048576 * (o : Int) + (a : Int) ∧ (o ≤ 1 → M' (ks + 5) (cs + L) = (a : Int))) ∨ ((o = 11 ∨ o = 12) ∧ cur = [true] ∧ cur' = [] ∧ N' 108 (ms + L) = 1048576 * (o : Int))) : ∃ (ty' : Nat → List Bool) (op' arg' : Nat → Nat), CR ks cs ms M' N' (L + 1) W' ty' op' arg' ∧ ty' (L + 1) = cur' ∧ ty' 0 = ty 0 := by
  obtain ⟨h1, h2, h3, h4⟩ := h
  obtain ⟨ty', T, T1⟩ : ∃ ty' : Nat → List Bool, (∀ i, i ≤ L → ty' i = ty i) ∧ ty' (L + 1) = cur' := ⟨fun i => if i = L + 1 then cur' else ty i, fun i hi => if_neg (by omega), if_pos rfl⟩
  obtain ⟨op', O, O1⟩ : ∃ op' : Nat → Nat, (∀ i, i < L → op' i = op i) ∧ op' L = o := ⟨fun i => if i = L then o else op i, fun i hi => if_neg (by omega), if_pos rfl⟩
  obtain ⟨arg', A, A1⟩ : ∃ arg' : Nat → Nat, (∀ i, i < L → arg' i = arg i) ∧ arg' L = a := ⟨fun i => if i = L then a else arg i, fun i hi => if_neg (by omega), if_pos rfl⟩
  refine ⟨ty', op', arg', ⟨e6, f14, fun k j q z => ?_, fun j hj => ?_⟩, T1, T 0 (by omega)⟩
  · rcases (hW k j z).mp q with q | ⟨q1, q2, q3⟩
    · have := h3 k j q z
      exact ⟨by omega, by rw [O j this.1]; exact this.2⟩
    · subst q3
      exact ⟨by omega, by rw [O1]; exact q2.symm⟩
  · by_cases e : j = L
    · subst e
      unfold cdj
      rw [T j (Nat.le_refl j), T1, O1, A1, hcur]
      refine ⟨hl, e4, ha, ?_⟩
      rcases hnew with q | ⟨q1, q2, q3, q4⟩
      · exact Or.inl q
      · exact Or.inr ⟨q1, q2, q3, Or.inl ⟨(hW o j q1).mpr (Or.inr ⟨q1, rfl, rfl⟩), q4⟩⟩
    · have hj' : j < L := by omega
      obtain ⟨a1, a2, a3, a4⟩ := h4 j hj'
      unfold cdj
      rw [T j (by omega), T (j + 1) (by omega), O j hj', A j hj', (hX j hj').1, (hX j hj').2, hY j hj']
      refine ⟨a1, a2, a3, ?_⟩
      rcases a4 with a4 | ⟨b1, b2, b3, b4⟩
      · exact Or.inl a4
      · refine Or.inr ⟨b1, b2, b3, ?_⟩
        rcases b4 with ⟨c1, c2⟩ | ⟨c1, c2, c3⟩
        · exact Or.inl ⟨(hW _ _ b1).mpr (Or.inl c1), c2⟩
        · exact Or.inr ⟨c1, by omega, by rw [T _ c2]; exact c3⟩
/-- a jump lands here -/
theorem CR_land {ks cs ms : Nat} {M N M' N' : pz_M} {L k j : Nat} {W : List (Nat × Nat)} {ty : Nat → List Bool} {op arg : Nat → Nat} (h : CR ks cs ms M N L ((k, j) :: W) ty op arg) (hk : k = 11 ∨ k = 12) (hcur : ty L = [true]) (hL : L < 1000) (e6 : M' ks 6 = M ks 6) (f14 : N' 100 14 = N 100 14) (e4 : ∀ i, M' (ks + 4) i = M (ks + 4) i) (e5 : ∀ i, M' (ks + 5) i = if i = cs + j then ((cs + L : Nat) : Int) else M (ks + 5) i) (f8 : ∀ i, N' 108 i = if i = ms + j then 1048576 * (k : Int) + ((ms + L : Nat) : Int) else N 108 i) : ∃ arg', CR ks cs ms M' N' L W ty op arg' := by
  obtain ⟨h1, h2, h3, h4⟩ := h
  obtain ⟨j1, j2⟩ := h3 k j (List.mem_cons_self) hk
  obtain ⟨arg', A, A1⟩ : ∃ arg' : Nat → Nat, (∀ i, i ≠ j → arg' i = arg i) ∧ arg' j = L := ⟨fun i => if i = j then L else arg i, fun i hi => if_neg hi, if_pos rfl⟩
  refine ⟨arg', by rw [e6]; exact h1, by rw [f14]; exact h2, fun k' j' q z => h3 k' j' (List.mem_cons_of_mem _ q) z, fun i hi => ?_⟩
  obtain ⟨a1, a2, a3, a4⟩ := h4 i hi
  unfold cdj
  by_cases e : i = j
  · subst e
    rw [A1, e4, e5, if_pos rfl, f8, if_pos rfl]
    refine ⟨a1, a2, by omega, ?_⟩
    rcases a4 with a4 | ⟨b1, b2, b3, b4⟩
    · omega
    · exact Or.inr ⟨b1, b2, b3, Or.inr ⟨j1, Nat.le_refl L, hcur, by rw [j2], rfl⟩⟩
  · rw [A i e, e4, e5, if_neg (by omega), f8, if_neg (by omega)]
    refine ⟨a1, a2, a3, ?_⟩
    rcases a4 with a4 | ⟨b1, b2, b3, b4⟩
    · exact Or.inl a4
    · refine Or.inr ⟨b1, b2, b3, ?_⟩
      rcases b4 with ⟨c1, c2⟩ | c
      · left
        refine ⟨?_, c2⟩
        rcases List.mem_cons.mp c1 with q | q
        · exact absurd (Prod.mk.inj q).2 e
        · exact q
      · exact Or.inr c
/-- what a stretch is once nothing waits any more -/
def sg8 (M N : pz_M) (k cs ms len : Nat) (fin : Bool) : Prop := ∃ (ty : Nat → List Bool) (op arg : Nat → Nat), ty 0 = [] ∧ ty len = [fin] ∧ ∀ j, j < len → (ty j).length < 32 ∧ op j ≤ 12 ∧ arg j < 1048576 ∧ rl_ty ty op arg len j ∧ M (k + 4) (cs + j) = opX (op j) ∧
    N 108 (ms + j) = 1048576 * (op j : Int) + (if op j = 11 ∨ op j = 12 then ((ms + arg j : Nat) : Int) else (arg j : Int)) ∧
    (op j ≤ 1 ∨ op j = 11 ∨ op j = 12 → M (k + 5) (cs + j) = if op j = 11 ∨ op j = 12 then ((cs + arg j : Nat) : Int) else (arg j : Int))
theorem CR_seg {ks cs ms : Nat} {M N : pz_M} {L : Nat} {ty : Nat → List Bool} {op arg : Nat → Nat} {fin : Bool} (h : CR ks cs ms M N L [] ty op arg) (h0 : ty 0 = []) (hL : ty L = [fin]) : sg8 M N ks cs ms L fin := by
  obtain ⟨h1, h2, h3, h4⟩ := h
  refine ⟨ty, op, arg, h0, hL, fun j hj => ?_⟩
  obtain ⟨a1, a2, a3, a4⟩ := h4 j hj
  rcases a4 with ⟨b1, b2, b3, b4⟩ | ⟨b1, b2, b3, b4⟩
  · refine ⟨a1, by omega, a3, ?_, a2, by rw [if_neg (by omega)]; exact b3, fun q => by rw [if_neg (by omega)]; exact b4 (by omega)⟩
    rcases b2 with q | q | q | q
    · exact Or.inl q
    · exact Or.inr (Or.inl q)
    · exact Or.inr (Or.inr (Or.inl q))
    · exact Or.inr (Or.inr (Or.inr (Or.inl q)))
  · rcases b4 with ⟨c1, _⟩ | ⟨c1, c2, c3, c4, c5⟩
    · cases c1
    · exact ⟨a1, by omega, a3, Or.inr (Or.inr (Or.inr (Or.inr ⟨b1, c1, c2, [], b2, b3, c3⟩))), a2, by rw [if_pos b1]; exact c4, fun _ => by rw [if_pos b1]; exact c5⟩
