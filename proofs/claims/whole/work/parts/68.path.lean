/-! ===== feathers along a path: orders, and stretches ===== -/
def ab (z : Int) : Int := max z (-z)
def loP (s : Nat) : List Bool → Nat
  | [] => s
  | false :: r => loP s r - 1
  | true :: r => loP s r
def hiP (s : Nat) : List Bool → Nat
  | [] => s
  | false :: r => hiP s r
  | true :: r => hiP s r + 1
def sdP : List Bool → Nat
  | [] => 0
  | false :: _ => 0
  | true :: _ => 1
def ixP (s : Nat) (b : List Bool) : Nat := if sdP b = 0 then loP s b else hiP s b
def tmD (W : Nat → Int) (s : Nat) : List Bool → Int
  | [] => 0
  | x :: r => tmD W s r + ab (W (ixP s (x :: r)) - W (ixP s r))
def qbP (W D : Nat → Int) (g : Nat → Nat) (s : Nat) : List Bool → List Nat
  | [] => []
  | x :: r => if tmD W s (x :: r) ≤ D (ixP s (x :: r)) then g (ixP s (x :: r)) :: qbP W D g s r else qbP W D g s r
def vldP (s n1 : Nat) : List Bool → Prop
  | [] => s < n1
  | false :: r => vldP s n1 r ∧ 0 < loP s r
  | true :: r => vldP s n1 r ∧ hiP s r + 1 < n1
def psR (w : Nat → Int) (f : Int) : List Nat → Int
  | [] => f
  | l :: _ => w l
def tmR (w : Nat → Int) (f : Int) : List Nat → Int
  | [] => 0
  | l :: r => tmR w f r + ab (w l - psR w f r)
def okR (w dl : Nat → Int) (f : Int) (n : Nat) : List Nat → Prop
  | [] => True
  | l :: r => okR w dl f n r ∧ l < n ∧ l ∉ r ∧ tmR w f (l :: r) ≤ dl l
theorem vld_rg {s n1 : Nat} : ∀ b, vldP s n1 b → loP s b ≤ s ∧ s ≤ hiP s b ∧ hiP s b < n1 ∧ loP s b + b.length = hiP s b ∧ loP s b ≤ ixP s b ∧ ixP s b ≤ hiP s b := by
  intro b
  induction b with
  | nil => intro h; exact ⟨Nat.le_refl s, Nat.le_refl s, h, rfl, Nat.le_refl s, Nat.le_refl s⟩
  | cons x r ih =>
    intro h
    cases x with
    | false =>
      obtain ⟨h1, h2⟩ := h
      have i := ih h1
      have e1 : loP s (false :: r) = loP s r - 1 := rfl
      have e2 : hiP s (false :: r) = hiP s r := rfl
      have e3 : ixP s (false :: r) = loP s r - 1 := rfl
      have e4 : (false :: r).length = r.length + 1 := rfl
      omega
    | true =>
      obtain ⟨h1, h2⟩ := h
      have i := ih h1
      have e1 : loP s (true :: r) = loP s r := rfl
      have e2 : hiP s (true :: r) = hiP s r + 1 := rfl
      have e3 : ixP s (true :: r) = hiP s r + 1 := rfl
      have e4 : (true :: r).length = r.length + 1 := rfl
      omega
theorem vld_tl {s n1 : Nat} {x : Bool} {r : List Bool} (h : vldP s n1 (x :: r)) : vldP s n1 r ∧ (ixP s (x :: r) + 1 = loP s r ∨ ixP s (x :: r) = hiP s r + 1) ∧ loP s (x :: r) ≤ loP s r ∧ hiP s r ≤ hiP s (x :: r) ∧ (∀ i, loP s (x :: r) ≤ i → i ≤ hiP s (x :: r) → i = ixP s (x :: r) ∨ (loP s r ≤ i ∧ i ≤ hiP s r)) := by
  cases x with
  | false =>
    obtain ⟨h1, h2⟩ := h
    have e1 : loP s (false :: r) = loP s r - 1 := rfl
    have e2 : hiP s (false :: r) = hiP s r := rfl
    have e3 : ixP s (false :: r) = loP s r - 1 := rfl
    exact ⟨h1, Or.inl (by omega), by omega, by omega, fun i a b => by omega⟩
  | true =>
    obtain ⟨h1, h2⟩ := h
    have e1 : loP s (true :: r) = loP s r := rfl
    have e2 : hiP s (true :: r) = hiP s r + 1 := rfl
    have e3 : ixP s (true :: r) = hiP s r + 1 := rfl
    exact ⟨h1, Or.inr (by omega), by omega, by omega, fun i a b => by omega⟩
/-- how the desk's row of places belongs to the feathers -/
def fea (W D : Nat → Int) (g : Nat → Nat) (s n : Nat) (w dl : Nat → Int) (f : Int) : Prop := s < n + 1 ∧ W s = f ∧ (∀ i j, i ≤ j → j < n + 1 → W i ≤ W j) ∧ (∀ i, i < n + 1 → i ≠ s → g i < n ∧ W i = w (g i) ∧ D i = dl (g i)) ∧ (∀ i j, i < n + 1 → j < n + 1 → i ≠ s → j ≠ s → g i = g j → i = j) ∧ ∀ k, k < n → ∃ i, i < n + 1 ∧ i ≠ s ∧ g i = k
section
variable {W D : Nat → Int} {g : Nat → Nat} {s n : Nat} {w dl : Nat → Int} {f : Int}
/-- what a way along stretches has, an order has too -/
theorem way_order (h : fea W D g s n w dl f) : ∀ b, vldP s (n + 1) b → okR w dl f n (qbP W D g s b) ∧ tmR w f (qbP W D g s b) + ab (psR w f (qbP W D g s b) - W (ixP s b)) ≤ tmD W s b ∧ ∀ k, k ∈ qbP W D g s b → ∃ i, loP s b ≤ i ∧ i ≤ hiP s b ∧ i ≠ s ∧ g i = k := by
  obtain ⟨f1, f2, f3, f4, f5, f6⟩ := h
  intro b
  induction b with
  | nil =>
    intro hv
    refine ⟨trivial, ?_, fun k hk => by cases hk⟩
    show (0 : Int) + ab (f - W s) ≤ 0
    unfold ab
    omega
  | cons x r ih =>
    intro hv
    obtain ⟨v1, v2, v3, v4, v5⟩ := vld_tl hv
    have rg := vld_rg _ hv
    have rgr := vld_rg _ v1
    obtain ⟨i1, i2, i3⟩ := ih v1
    have hi := f4 (ixP s (x :: r)) (by omega) (by omega)
    have et : tmD W s (x :: r) = tmD W s r + ab (W (ixP s (x :: r)) - W (ixP s r)) := rfl
    by_cases c : tmD W s (x :: r) ≤ D (ixP s (x :: r))
    · have eq : qbP W D g s (x :: r) = g (ixP s (x :: r)) :: qbP W D g s r := if_pos c
      have e2 : tmR w f (g (ixP s (x :: r)) :: qbP W D g s r) = tmR w f (qbP W D g s r) + ab (w (g (ixP s (x :: r))) - psR w f (qbP W D g s r)) := rfl
      have e3 : psR w f (g (ixP s (x :: r)) :: qbP W D g s r) = w (g (ixP s (x :: r))) := rfl
      rw [eq]
      unfold ab at *
      refine ⟨⟨i1, hi.1, fun hm => ?_, ?_⟩, ?_, fun k hk => ?_⟩
      · obtain ⟨j, j1, j2, j3, j4⟩ := i3 _ hm
        have := f5 j _ (by omega) (by omega) j3 (by omega) j4
        omega
      · rw [e2]; omega
      · rw [e2, e3]; omega
      · rcases List.mem_cons.mp hk with z | z
        · exact ⟨ixP s (x :: r), by omega, by omega, by omega, z.symm⟩
        · obtain ⟨j, j1, j2, j3, j4⟩ := i3 _ z
          exact ⟨j, by omega, by omega, j3, j4⟩
    · have eq : qbP W D g s (x :: r) = qbP W D g s r := if_neg c
      rw [eq]
      refine ⟨i1, ?_, fun k hk => ?_⟩
      · rw [et]; unfold ab at *; omega
      · obtain ⟨j, j1, j2, j3, j4⟩ := i3 _ hk
        exact ⟨j, by omega, by omega, j3, j4⟩
theorem tmD_mono (x : Bool) (r : List Bool) : tmD W s r ≤ tmD W s (x :: r) := by
  have et : tmD W s (x :: r) = tmD W s r + ab (W (ixP s (x :: r)) - W (ixP s r)) := rfl
  rw [et]; unfold ab; omega
theorem qb_sub {x : Bool} {r : List Bool} {k : Nat} (h : k ∈ qbP W D g s r) : k ∈ qbP W D g s (x :: r) := by
  by_cases c : tmD W s (x :: r) ≤ D (ixP s (x :: r))
  · have eq : qbP W D g s (x :: r) = g (ixP s (x :: r)) :: qbP W D g s r := if_pos c
    rw [eq]; exact List.mem_cons_of_mem _ h
  · have eq : qbP W D g s (x :: r) = qbP W D g s r := if_neg c
    rw [eq]; exact h
/-- what was gone by is had, or it was too late -/
theorem way_had : ∀ b, vldP s (n + 1) b → ∀ i, loP s b ≤ i → i ≤ hiP s b → i ≠ s → g i ∈ qbP W D g s b ∨ D i < tmD W s b := by
  intro b
  induction b with
  | nil => intro _ i h1 h2 h3; exact absurd (Nat.le_antisymm h2 h1) h3
  | cons x r ih =>
    intro hv i h1 h2 h3
    obtain ⟨v1, v2, v3, v4, v5⟩ := vld_tl hv
    rcases v5 i h1 h2 with e | ⟨e1, e2⟩
    · by_cases c : tmD W s (x :: r) ≤ D (ixP s (x :: r))
      · have eq : qbP W D g s (x :: r) = g (ixP s (x :: r)) :: qbP W D g s r := if_pos c
        left; rw [eq, e]; exact List.mem_cons_self
      · right; rw [e]; omega
    · rcases ih v1 i e1 e2 h3 with z | z
      · exact Or.inl (qb_sub z)
      · have := tmD_mono (W := W) (s := s) x r
        right; omega
theorem ext_R (h : fea W D g s n w dl f) {b : List Bool} (hv : vldP s (n + 1) b) : ∀ j, hiP s b + j < n + 1 → ∃ b', vldP s (n + 1) b' ∧ loP s b' = loP s b ∧ hiP s b' = hiP s b + j ∧ (0 < j → ixP s b' = hiP s b + j ∧ tmD W s b' = tmD W s b + (W (hiP s b + j) - W (ixP s b))) ∧ (j = 0 → b' = b) ∧ ∀ k, k ∈ qbP W D g s b → k ∈ qbP W D g s b' := by
  obtain ⟨f1, f2, f3, f4, f5, f6⟩ := h
  have rg := vld_rg _ hv
  intro j
  induction j with
  | zero => intro _; exact ⟨b, hv, rfl, rfl, fun z => by omega, fun _ => rfl, fun _ z => z⟩
  | succ j ih =>
    intro hj
    obtain ⟨b', a1, a2, a3, a4, a5, a6⟩ := ih (by omega)
    have e1 : loP s (true :: b') = loP s b' := rfl
    have e2 : hiP s (true :: b') = hiP s b' + 1 := rfl
    have e3 : ixP s (true :: b') = hiP s b' + 1 := rfl
    have et : tmD W s (true :: b') = tmD W s b' + ab (W (ixP s (true :: b')) - W (ixP s b')) := rfl
    refine ⟨true :: b', ⟨a1, by omega⟩, by rw [e1]; exact a2, by rw [e2, a3]; omega, fun _ => ⟨by rw [e3, a3]; omega, ?_⟩, fun z => by omega, fun k hk => qb_sub (a6 k hk)⟩
    rw [et, e3, a3, show hiP s b + j + 1 = hiP s b + (j + 1) by omega]
    by_cases c : j = 0
    · rw [a5 c]
      have := f3 (ixP s b) (hiP s b + (j + 1)) (by omega) (by omega)
      unfold ab; omega
    · obtain ⟨c1, c2⟩ := a4 (by omega)
      rw [c1, c2]
      have := f3 (hiP s b + j) (hiP s b + (j + 1)) (by omega) (by omega)
      unfold ab; omega
theorem ext_L (h : fea W D g s n w dl f) {b : List Bool} (hv : vldP s (n + 1) b) : ∀ j, j ≤ loP s b → ∃ b', vldP s (n + 1) b' ∧ loP s b' = loP s b - j ∧ hiP s b' = hiP s b ∧ (0 < j → ixP s b' = loP s b - j ∧ tmD W s b' = tmD W s b + (W (ixP s b) - W (loP s b - j))) ∧ (j = 0 → b' = b) ∧ ∀ k, k ∈ qbP W D g s b → k ∈ qbP W D g s b' := by
  obtain ⟨f1, f2, f3, f4, f5, f6⟩ := h
  have rg := vld_rg _ hv
  intro j
  induction j with
  | zero => intro _; exact ⟨b, hv, rfl, rfl, fun z => by omega, fun _ => rfl, fun _ z => z⟩
  | succ j ih =>
    intro hj
    obtain ⟨b', a1, a2, a3, a4, a5, a6⟩ := ih (by omega)
    have e1 : loP s (false :: b') = loP s b' - 1 := rfl
    have e2 : hiP s (false :: b') = hiP s b' := rfl
    have e3 : ixP s (false :: b') = loP s b' - 1 := rfl
    have et : tmD W s (false :: b') = tmD W s b' + ab (W (ixP s (false :: b')) - W (ixP s b')) := rfl
    refine ⟨false :: b', ⟨a1, by omega⟩, by rw [e1, a2]; omega, by rw [e2]; exact a3, fun _ => ⟨by rw [e3, a2]; omega, ?_⟩, fun z => by omega, fun k hk => qb_sub (a6 k hk)⟩
    rw [et, e3, a2, show loP s b - j - 1 = loP s b - (j + 1) by omega]
    by_cases c : j = 0
    · rw [a5 c]
      have := f3 (loP s b - (j + 1)) (ixP s b) (by omega) (by omega)
      unfold ab; omega
    · obtain ⟨c1, c2⟩ := a4 (by omega)
      rw [c1, c2]
      have := f3 (loP s b - (j + 1)) (loP s b - j) (by omega) (by omega)
      unfold ab; omega
/-- what an order has, a way along stretches has too -/
theorem order_way (h : fea W D g s n w dl f) : ∀ q, okR w dl f n q → ∃ b, vldP s (n + 1) b ∧ tmD W s b + ab (W (ixP s b) - psR w f q) ≤ tmR w f q ∧ ∀ k, k ∈ q → k ∈ qbP W D g s b := by
  have h' := h
  obtain ⟨f1, f2, f3, f4, f5, f6⟩ := h'
  intro q
  induction q with
  | nil =>
    intro _
    refine ⟨[], f1, ?_, fun k hk => by cases hk⟩
    show (0 : Int) + ab (W s - f) ≤ 0
    unfold ab
    omega
  | cons l q ih =>
    intro hq
    obtain ⟨o1, o2, o3, o4⟩ := hq
    obtain ⟨b, b1, b2, b3⟩ := ih o1
    obtain ⟨i, i1, i2, i3⟩ := f6 l o2
    obtain ⟨g1, g2, g3⟩ := f4 i i1 i2
    rw [i3] at g2 g3
    have rg := vld_rg _ b1
    have et : tmR w f (l :: q) = tmR w f q + ab (w l - psR w f q) := rfl
    have ep : psR w f (l :: q) = w l := rfl
    rw [et] at o4
    rw [et, ep]
    by_cases c1 : hiP s b < i
    · obtain ⟨b', a1, a2, a3, a4, a5, a6⟩ := ext_R h b1 (i - hiP s b) (by omega)
      obtain ⟨a7, a8⟩ := a4 (by omega)
      rw [show hiP s b + (i - hiP s b) = i by omega] at a3 a7 a8
      have hs := f3 (ixP s b) i (by omega) (by omega)
      have rg' := vld_rg _ a1
      refine ⟨b', a1, ?_, fun k hk => ?_⟩
      · rw [a7, a8]; unfold ab at *; omega
      · rcases List.mem_cons.mp hk with z | z
        · subst z
          rcases way_had (W := W) (D := D) (g := g) b' a1 i (by omega) (by omega) i2 with y | y
          · rw [i3] at y; exact y
          · rw [a8] at y; unfold ab at *; omega
        · exact a6 k (b3 k z)
    · by_cases c2 : i < loP s b
      · obtain ⟨b', a1, a2, a3, a4, a5, a6⟩ := ext_L h b1 (loP s b - i) (by omega)
        obtain ⟨a7, a8⟩ := a4 (by omega)
        rw [show loP s b - (loP s b - i) = i by omega] at a2 a7 a8
        have hs := f3 i (ixP s b) (by omega) (by omega)
        have rg' := vld_rg _ a1
        refine ⟨b', a1, ?_, fun k hk => ?_⟩
        · rw [a7, a8]; unfold ab at *; omega
        · rcases List.mem_cons.mp hk with z | z
          · subst z
            rcases way_had (W := W) (D := D) (g := g) b' a1 i (by omega) (by omega) i2 with y | y
            · rw [i3] at y; exact y
            · rw [a8] at y; unfold ab at *; omega
          · exact a6 k (b3 k z)
      · refine ⟨b, b1, ?_, fun k hk => ?_⟩
        · unfold ab at *; omega
        · rcases List.mem_cons.mp hk with z | z
          · subst z
            rcases way_had (W := W) (D := D) (g := g) b b1 i (by omega) (by omega) i2 with y | y
            · rw [i3] at y; exact y
            · unfold ab at *; omega
          · exact b3 k z
theorem cntB_ins {P Q : Nat → Bool} {l : Nat} (hl : P l = false) (hQ : ∀ k, Q k = (decide (k = l) || P k)) : ∀ n, cntB Q n = cntB P n + if l < n then 1 else 0 := by
  intro n
  induction n with
  | zero => rfl
  | succ n ih =>
    unfold cntB
    rw [ih, hQ n]
    by_cases e : n = l
    · subst e
      rw [hl, if_neg (show ¬ n < n by omega), if_pos (show n < n + 1 by omega)]
      simp
    · rw [decide_eq_false e, Bool.false_or]
      by_cases c : l < n
      · rw [if_pos c, if_pos (show l < n + 1 by omega)]; omega
      · rw [if_neg c, if_neg (show ¬ l < n + 1 by omega)]; omega
theorem ok_len : ∀ q, okR w dl f n q → (q.length : Int) = cntB (fun k => decide (k ∈ q)) n := by
  intro q
  induction q with
  | nil =>
    intro _
    have : ∀ m, cntB (fun k => decide (k ∈ ([] : List Nat))) m = 0 := by
      intro m
      induction m with
      | zero => rfl
      | succ m ih => unfold cntB; rw [ih]; simp
    rw [this]; rfl
  | cons l q ih =>
    intro hq
    obtain ⟨o1, o2, o3, o4⟩ := hq
    rw [cntB_ins (P := fun k => decide (k ∈ q)) (l := l) (decide_eq_false o3) (fun k => by simp [List.mem_cons, Bool.decide_or]) n, if_pos o2, ← ih o1]
    show ((q.length + 1 : Nat) : Int) = _
    omega
theorem cntB_mono {P Q : Nat → Bool} (h : ∀ k, P k = true → Q k = true) : ∀ n, cntB P n ≤ cntB Q n := by
  intro n
  induction n with
  | zero => exact Int.le_refl _
  | succ n ih =>
    unfold cntB
    cases hp : P n with
    | false => rw [if_neg (show ¬ (false = true) by decide)]; split <;> omega
    | true => rw [h n hp]; simp; omega
/-- every order is no longer than what a way through all stretches has -/
theorem order_full (h : fea W D g s n w dl f) {q : List Nat} (hq : okR w dl f n q) : ∃ b, vldP s (n + 1) b ∧ b.length = n ∧ q.length ≤ (qbP W D g s b).length := by
  obtain ⟨b, b1, b2, b3⟩ := order_way h q hq
  have rg := vld_rg _ b1
  obtain ⟨b', a1, a2, a3, a4, a5, a6⟩ := ext_R h b1 (n - hiP s b) (by omega)
  obtain ⟨b'', c1, c2, c3, c4, c5, c6⟩ := ext_L h a1 (loP s b') (Nat.le_refl _)
  have rg' := vld_rg _ c1
  refine ⟨b'', c1, by omega, ?_⟩
  have e1 := ok_len q hq
  have e2 := ok_len _ (way_order h b'' c1).1
  have e3 := cntB_mono (P := fun k => decide (k ∈ q)) (Q := fun k => decide (k ∈ qbP W D g s b'')) (fun k hk => decide_eq_true (c6 k (a6 k (b3 k (of_decide_eq_true hk))))) n
  omega
end
