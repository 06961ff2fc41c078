/-! ===== an abstract machine over whole numbers: values, states, programs ===== -/
abbrev pk_V : Type := Int ⊕ Option Nat
abbrev pkI (x : Int) : pk_V := .inl x
abbrev pkR (k : Nat) : pk_V := .inr (some k)
abbrev pkN : pk_V := .inr none
abbrev pk_M : Type := Nat → Nat → Int
abbrev pk_S : Type := Nat × List pk_V × List pk_V × pk_M
abbrev pk_A : Type := Option pk_V × pk_M
abbrev pk_F : Type := pk_S → Option (pk_S ⊕ pk_A)
abbrev pk_O : Type := pk_F ⊕ (Nat × Nat × Nat)
/-- a method: its name, its code, how many locals, what it returns, its level (0: one less than the caller's), how many arguments, its steps -/
abbrev pk_Row : Type := MethodName × ByteArray × Nat × Option FieldType × Nat × Nat × List (Nat × pk_O)
abbrev rw_y (r : pk_Row) : MethodName := r.1
abbrev rw_c (r : pk_Row) : ByteArray := r.2.1
abbrev rw_n (r : pk_Row) : Nat := r.2.2.1
abbrev rw_t (r : pk_Row) : Option FieldType := r.2.2.2.1
abbrev rw_l (r : pk_Row) : Nat := r.2.2.2.2.1
abbrev rw_a (r : pk_Row) : Nat := r.2.2.2.2.2.1
abbrev rw_p (r : pk_Row) : List (Nat × pk_O) := r.2.2.2.2.2.2
def pk_look : List (Nat × pk_O) → Nat → Option pk_O
  | [], _ => none
  | q :: r, pc => bif Nat.beq q.1 pc then some q.2 else pk_look r pc
def pk_ent (n : Nat) (as : List pk_V) : List pk_V := as ++ List.replicate (n - as.length) pkN
def pk_cd (lv d : Nat) : Nat := bif Nat.beq lv 0 then d - 1 else lv
/-- the receiver (the lowest of the arguments) is of the class rc - 1; rc = 0: none is asked -/
def pk_rok (rc na : Nat) (st : List pk_V) : Bool := Nat.beq rc 0 || (match st[na - 1]? with
  | some (.inr (some k)) => Nat.beq (pk_cls k) (rc - 1)
  | _ => false)
/-- a call may be made: so many arguments are there, little is left below them, the callee's level is below -/
def pk_cok (row : pk_Row) (d na rc : Nat) (st : List pk_V) : Bool := Nat.beq (rw_a row) na && (Nat.ble na st.length && (Nat.ble (st.length - na) 8 && (Nat.ble na (rw_n row) && (Nat.ble (rw_n row) 100 && (Nat.ble 1 (pk_cd (rw_l row) d) && (Nat.ble (pk_cd (rw_l row) d + 1) d && pk_rok rc na st))))))
def pk_step (T : List pk_Row) (rec : Nat → Nat → pk_S → Option pk_A) (d mid : Nat) (σ : pk_S) : Option pk_A :=
  (T[mid]?).bind fun row => (pk_look (rw_p row) σ.1).bind fun o => match o with
    | .inl f => (f σ).bind fun z => match z with
      | .inl σ' => rec d mid σ'
      | .inr r => some r
    | .inr q => (T[q.1]?).bind fun row' => bif pk_cok row' d q.2.1 q.2.2 σ.2.2.1 then
        (rec (pk_cd (rw_l row') d) q.1 (0, pk_ent (rw_n row') (σ.2.2.1.take q.2.1).reverse, [], σ.2.2.2)).bind fun a => rec d mid (σ.1 + 3, σ.2.1, a.1.toList ++ σ.2.2.1.drop q.2.1, a.2)
      else none
def pk_exec (T : List pk_Row) : Nat → Nat → Nat → pk_S → Option pk_A
  | 0 => fun _ _ _ => none
  | n + 1 => pk_step T (pk_exec T n)
theorem pk_step_mono {T : List pk_Row} {f g : Nat → Nat → pk_S → Option pk_A} (h : ∀ d mid σ r, f d mid σ = some r → g d mid σ = some r) {d mid : Nat} {σ : pk_S} {r : pk_A} (hr : pk_step T f d mid σ = some r) : pk_step T g d mid σ = some r := by
  unfold pk_step at hr ⊢
  obtain ⟨row, h1, hr⟩ := Option.bind_eq_some_iff.mp hr
  obtain ⟨o, h2, hr⟩ := Option.bind_eq_some_iff.mp hr
  rw [h1, Option.bind_some, h2, Option.bind_some]
  cases o with
  | inl F =>
    obtain ⟨z, h3, hr⟩ := Option.bind_eq_some_iff.mp hr
    simp only [h3, Option.bind_some]
    cases z with
    | inl s' => exact h _ _ _ _ hr
    | inr a => exact hr
  | inr q =>
    obtain ⟨row', h3, hr⟩ := Option.bind_eq_some_iff.mp hr
    simp only [h3, Option.bind_some]
    cases hc : pk_cok row' d q.2.1 q.2.2 σ.2.2.1 with
    | false => rw [hc] at hr; cases hr
    | true =>
      rw [hc] at hr
      simp only [cond_true] at hr ⊢
      obtain ⟨a, h4, hr⟩ := Option.bind_eq_some_iff.mp hr
      rw [h _ _ _ _ h4, Option.bind_some]
      exact h _ _ _ _ hr
theorem pk_exec_succ {T : List pk_Row} : ∀ (n : Nat) (d mid : Nat) (σ : pk_S) (r : pk_A), pk_exec T n d mid σ = some r → pk_exec T (n + 1) d mid σ = some r := by
  intro n
  induction n with
  | zero => intro d mid σ r h; cases h
  | succ n ih => intro d mid σ r h; exact pk_step_mono ih h
theorem pk_exec_le {T : List pk_Row} {n k : Nat} (hk : n ≤ k) {d mid : Nat} {σ : pk_S} {r : pk_A} (h : pk_exec T n d mid σ = some r) : pk_exec T k d mid σ = some r := by
  induction hk with
  | refl => exact h
  | step _ ih => exact pk_exec_succ _ _ _ _ _ ih
noncomputable def pk_runT (T : List pk_Row) (d mid : Nat) (σ : pk_S) : Option pk_A := @dite _ (∃ r, ∃ n, pk_exec T n d mid σ = some r) (Classical.propDecidable _) (fun h => some h.choose) (fun _ => none)
theorem pk_runT_iff {T : List pk_Row} {d mid : Nat} {σ : pk_S} {r : pk_A} : pk_runT T d mid σ = some r ↔ ∃ n, pk_exec T n d mid σ = some r := by
  unfold pk_runT
  split
  · rename_i h
    constructor
    · intro e
      cases e
      exact h.choose_spec
    · rintro ⟨n, hn⟩
      obtain ⟨k, hk⟩ := h.choose_spec
      have h1 := pk_exec_le (Nat.le_max_left n k) hn
      have h2 := pk_exec_le (Nat.le_max_right n k) hk
      rw [h1] at h2
      exact h2.symm
  · rename_i h
    constructor
    · intro e; cases e
    · rintro ⟨n, hn⟩
      exact absurd ⟨r, n, hn⟩ h
theorem pk_runT_eq (T : List pk_Row) (d mid : Nat) (σ : pk_S) : pk_runT T d mid σ = pk_step T (pk_runT T) d mid σ := by
  have one : ∀ r, pk_runT T d mid σ = some r → pk_step T (pk_runT T) d mid σ = some r := by
    intro r h
    obtain ⟨n, hn⟩ := pk_runT_iff.mp h
    cases n with
    | zero => cases hn
    | succ n => exact pk_step_mono (fun _ _ _ _ q => pk_runT_iff.mpr ⟨n, q⟩) hn
  have two : ∀ r, pk_step T (pk_runT T) d mid σ = some r → pk_runT T d mid σ = some r := by
    intro r hr
    have key : ∃ n, pk_step T (pk_exec T n) d mid σ = some r := by
      unfold pk_step at hr ⊢
      obtain ⟨row, h1, hr⟩ := Option.bind_eq_some_iff.mp hr
      obtain ⟨o, h2, hr⟩ := Option.bind_eq_some_iff.mp hr
      simp only [h1, Option.bind_some, h2]
      cases o with
      | inl F =>
        obtain ⟨z, h3, hr⟩ := Option.bind_eq_some_iff.mp hr
        simp only [h3, Option.bind_some]
        cases z with
        | inl s' => exact pk_runT_iff.mp hr
        | inr a => exact ⟨0, hr⟩
      | inr q =>
        obtain ⟨row', h3, hr⟩ := Option.bind_eq_some_iff.mp hr
        simp only [h3, Option.bind_some]
        cases hc : pk_cok row' d q.2.1 q.2.2 σ.2.2.1 with
        | false => rw [hc] at hr; cases hr
        | true =>
          rw [hc] at hr
          simp only [cond_true] at hr ⊢
          obtain ⟨a, h4, hr⟩ := Option.bind_eq_some_iff.mp hr
          obtain ⟨n1, h5⟩ := pk_runT_iff.mp h4
          obtain ⟨n2, h6⟩ := pk_runT_iff.mp hr
          refine ⟨max n1 n2, ?_⟩
          rw [pk_exec_le (Nat.le_max_left n1 n2) h5, Option.bind_some]
          exact pk_exec_le (Nat.le_max_right n1 n2) h6
    obtain ⟨n, hn⟩ := key
    exact pk_runT_iff.mpr ⟨n + 1, hn⟩
  cases h1 : pk_runT T d mid σ with
  | some r => exact (one r h1).symm
  | none =>
    cases h2 : pk_step T (pk_runT T) d mid σ with
    | none => rfl
    | some r => rw [two r h2] at h1; cases h1
/-! the steps of a run, one by one -/
theorem pk_runT_op {T : List pk_Row} {d mid : Nat} {row : pk_Row} {σ σ' : pk_S} {f : pk_F} (h1 : T[mid]? = some row) (h2 : pk_look (rw_p row) σ.1 = some (.inl f)) (h3 : f σ = some (.inl σ')) : pk_runT T d mid σ = pk_runT T d mid σ' := by
  rw [pk_runT_eq, pk_step, h1, Option.bind_some, h2, Option.bind_some]
  simp only [h3, Option.bind_some]
theorem pk_runT_ret {T : List pk_Row} {d mid : Nat} {row : pk_Row} {σ : pk_S} {r : pk_A} {f : pk_F} (h1 : T[mid]? = some row) (h2 : pk_look (rw_p row) σ.1 = some (.inl f)) (h3 : f σ = some (.inr r)) : pk_runT T d mid σ = some r := by
  rw [pk_runT_eq, pk_step, h1, Option.bind_some, h2, Option.bind_some]
  simp only [h3, Option.bind_some]
theorem pk_runT_no {T : List pk_Row} {d mid : Nat} {row : pk_Row} {σ : pk_S} {f : pk_F} (h1 : T[mid]? = some row) (h2 : pk_look (rw_p row) σ.1 = some (.inl f)) (h3 : f σ = none) : pk_runT T d mid σ = none := by
  rw [pk_runT_eq, pk_step, h1, Option.bind_some, h2, Option.bind_some]
  simp only [h3, Option.bind_none]
theorem pk_runT_call {T : List pk_Row} {d mid q na rc : Nat} {row row' : pk_Row} {σ : pk_S} (h1 : T[mid]? = some row) (h2 : pk_look (rw_p row) σ.1 = some (.inr (q, na, rc))) (h3 : T[q]? = some row') (h4 : pk_cok row' d na rc σ.2.2.1 = true) : pk_runT T d mid σ = (pk_runT T (pk_cd (rw_l row') d) q (0, pk_ent (rw_n row') (σ.2.2.1.take na).reverse, [], σ.2.2.2)).bind fun a => pk_runT T d mid (σ.1 + 3, σ.2.1, a.1.toList ++ σ.2.2.1.drop na, a.2) := by
  rw [pk_runT_eq, pk_step, h1, Option.bind_some, h2, Option.bind_some]
  simp only [h3, Option.bind_some, h4, cond_true]
