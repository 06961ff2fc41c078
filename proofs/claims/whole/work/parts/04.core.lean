/-! ===== an abstract machine over whole numbers: values, states, programs ===== -/
abbrev pz_V : Type := Int ⊕ Option Nat
abbrev pzI (x : Int) : pz_V := .inl x
abbrev pzR (k : Nat) : pz_V := .inr (some k)
abbrev pzN : pz_V := .inr none
abbrev pz_M : Type := Nat → Nat → Int
abbrev pz_S : Type := Nat × List pz_V × List pz_V × pz_M
abbrev pz_A : Type := Option pz_V × pz_M
abbrev pz_F : Type := pz_S → Option (pz_S ⊕ pz_A)
abbrev pz_O : Type := pz_F ⊕ (Nat × Nat × Nat)
/-- a method: its name, its code, how many locals, what it returns, its level (0: one less than the caller's), how many arguments, its steps -/
abbrev pz_Row : Type := MethodName × ByteArray × Nat × Option FieldType × Nat × Nat × List (Nat × pz_O)
abbrev rw_y (r : pz_Row) : MethodName := r.1
abbrev rw_c (r : pz_Row) : ByteArray := r.2.1
abbrev rw_n (r : pz_Row) : Nat := r.2.2.1
abbrev rw_t (r : pz_Row) : Option FieldType := r.2.2.2.1
abbrev rw_l (r : pz_Row) : Nat := r.2.2.2.2.1
abbrev rw_a (r : pz_Row) : Nat := r.2.2.2.2.2.1
abbrev rw_p (r : pz_Row) : List (Nat × pz_O) := r.2.2.2.2.2.2
def pz_look : List (Nat × pz_O) → Nat → Option pz_O
  | [], _ => none
  | q :: r, pc => bif Nat.beq q.1 pc then some q.2 else pz_look r pc
def pz_ent (n : Nat) (as : List pz_V) : List pz_V := as ++ List.replicate (n - as.length) pzN
def pz_cd (lv d : Nat) : Nat := bif Nat.beq lv 0 then d - 1 else lv
/-- the receiver (the lowest of the arguments) is of the class rc - 1; rc = 0: none is asked -/
def pz_rok (rc na : Nat) (st : List pz_V) : Bool := Nat.beq rc 0 || (match st[na - 1]? with
  | some (.inr (some k)) => Nat.beq (pz_cls k) (rc - 1)
  | _ => false)
/-- a call may be made: so many arguments are there, little is left below them, the callee's level is below -/
def pz_cok (row : pz_Row) (d na rc : Nat) (st : List pz_V) : Bool := Nat.beq (rw_a row) na && (Nat.ble na st.length && (Nat.ble (st.length - na) 8 && (Nat.ble na (rw_n row) && (Nat.ble (rw_n row) 100 && (Nat.ble 3 (pz_cd (rw_l row) d) && (Nat.ble (pz_cd (rw_l row) d + 1) d && pz_rok rc na st))))))
/-- what a method of a return type answers -/
def pz_shp (t : Option FieldType) (v : Option pz_V) : Bool := match t, v with
  | none, none => true
  | some _, some (.inl _) => true
  | _, _ => false
def pz_step (T : List pz_Row) (rec : Nat → Nat → pz_S → Option pz_A) (d mid : Nat) (σ : pz_S) : Option pz_A :=
  (T[mid]?).bind fun row => (pz_look (rw_p row) σ.1).bind fun o => match o with
    | .inl f => (f σ).bind fun z => match z with
      | .inl σ' => rec d mid σ'
      | .inr r => some r
    | .inr q => (T[q.1]?).bind fun row' => bif pz_cok row' d q.2.1 q.2.2 σ.2.2.1 then
        (rec (pz_cd (rw_l row') d) q.1 (0, pz_ent (rw_n row') (σ.2.2.1.take q.2.1).reverse, [], σ.2.2.2)).bind fun a => bif pz_shp (rw_t row') a.1 then rec d mid (σ.1 + 3, σ.2.1, a.1.toList ++ σ.2.2.1.drop q.2.1, a.2) else none
      else none
def pz_exec (T : List pz_Row) : Nat → Nat → Nat → pz_S → Option pz_A
  | 0 => fun _ _ _ => none
  | n + 1 => pz_step T (pz_exec T n)
theorem pz_step_mono {T : List pz_Row} {f g : Nat → Nat → pz_S → Option pz_A} (h : ∀ d mid σ r, f d mid σ = some r → g d mid σ = some r) {d mid : Nat} {σ : pz_S} {r : pz_A} (hr : pz_step T f d mid σ = some r) : pz_step T g d mid σ = some r := by
  unfold pz_step at hr ⊢
  obtain ⟨row, h1, hr⟩ := Option.bind_eq_some_iff.mp hr
  obtain ⟨o, h2, hr⟩ := Option.bind_eq_some_iff.mp hr
  rw [h1, Option.bind_some, h2, Option.bind_some]
  cases o with
  | inl F =>
    obtain ⟨z, h3, hr⟩ := Option.bind_eq_some_iff.mp hr
    simp only [h3, Option.bind_some]
    cases z with
    | inl s' => exact h _ _ _ _ hr
    | inr a => exact hr
  | inr q =>
    obtain ⟨row', h3, hr⟩ := Option.bind_eq_some_iff.mp hr
    simp only [h3, Option.bind_some]
    cases hc : pz_cok row' d q.2.1 q.2.2 σ.2.2.1 with
    | false => rw [hc] at hr; cases hr
    | true =>
      rw [hc] at hr
      simp only [cond_true] at hr ⊢
      obtain ⟨a, h4, hr⟩ := Option.bind_eq_some_iff.mp hr
      rw [h _ _ _ _ h4, Option.bind_some]
      cases hs : pz_shp (rw_t row') a.1 with
      | false => rw [hs] at hr; cases hr
      | true =>
        rw [hs] at hr
        exact h _ _ _ _ hr
theorem pz_exec_succ {T : List pz_Row} : ∀ (n : Nat) (d mid : Nat) (σ : pz_S) (r : pz_A), pz_exec T n d mid σ = some r → pz_exec T (n + 1) d mid σ = some r := by
  intro n
  induction n with
  | zero => intro d mid σ r h; cases h
  | succ n ih => intro d mid σ r h; exact pz_step_mono ih h
theorem pz_exec_le {T : List pz_Row} {n k : Nat} (hk : n ≤ k) {d mid : Nat} {σ : pz_S} {r : pz_A} (h : pz_exec T n d mid σ = some r) : pz_exec T k d mid σ = some r := by
  induction hk with
  | refl => exact h
  | step _ ih => exact pz_exec_succ _ _ _ _ _ ih
noncomputable def pz_runT (T : List pz_Row) (d mid : Nat) (σ : pz_S) : Option pz_A := @dite _ (∃ r, ∃ n, pz_exec T n d mid σ = some r) (Classical.propDecidable _) (fun h => some h.choose) (fun _ => none)
theorem pz_runT_iff {T : List pz_Row} {d mid : Nat} {σ : pz_S} {r : pz_A} : pz_runT T d mid σ = some r ↔ ∃ n, pz_exec T n d mid σ = some r := by
  unfold pz_runT
  split
  · rename_i h
    constructor
    · intro e
      cases e
      exact h.choose_spec
    · rintro ⟨n, hn⟩
      obtain ⟨k, hk⟩ := h.choose_spec
      have h1 := pz_exec_le (Nat.le_max_left n k) hn
      have h2 := pz_exec_le (Nat.le_max_right n k) hk
      rw [h1] at h2
      exact h2.symm
  · rename_i h
    constructor
    · intro e; cases e
    · rintro ⟨n, hn⟩
      exact absurd ⟨r, n, hn⟩ h
theorem pz_runT_eq (T : List pz_Row) (d mid : Nat) (σ : pz_S) : pz_runT T d mid σ = pz_step T (pz_runT T) d mid σ := by
  have one : ∀ r, pz_runT T d mid σ = some r → pz_step T (pz_runT T) d mid σ = some r := by
    intro r h
    obtain ⟨n, hn⟩ := pz_runT_iff.mp h
    cases n with
    | zero => cases hn
    | succ n => exact pz_step_mono (fun _ _ _ _ q => pz_runT_iff.mpr ⟨n, q⟩) hn
  have two : ∀ r, pz_step T (pz_runT T) d mid σ = some r → pz_runT T d mid σ = some r := by
    intro r hr
    have key : ∃ n, pz_step T (pz_exec T n) d mid σ = some r := by
      unfold pz_step at hr ⊢
      obtain ⟨row, h1, hr⟩ := Option.bind_eq_some_iff.mp hr
      obtain ⟨o, h2, hr⟩ := Option.bind_eq_some_iff.mp hr
      simp only [h1, Option.bind_some, h2]
      cases o with
      | inl F =>
        obtain ⟨z, h3, hr⟩ := Option.bind_eq_some_iff.mp hr
        simp only [h3, Option.bind_some]
        cases z with
        | inl s' => exact pz_runT_iff.mp hr
        | inr a => exact ⟨0, hr⟩
      | inr q =>
        obtain ⟨row', h3, hr⟩ := Option.bind_eq_some_iff.mp hr
        simp only [h3, Option.bind_some]
        cases hc : pz_cok row' d q.2.1 q.2.2 σ.2.2.1 with
        | false => rw [hc] at hr; cases hr
        | true =>
          rw [hc] at hr
          simp only [cond_true] at hr ⊢
          obtain ⟨a, h4, hr⟩ := Option.bind_eq_some_iff.mp hr
          cases hs : pz_shp (rw_t row') a.1 with
          | false => rw [hs] at hr; cases hr
          | true =>
            rw [hs] at hr
            obtain ⟨n1, h5⟩ := pz_runT_iff.mp h4
            obtain ⟨n2, h6⟩ := pz_runT_iff.mp hr
            refine ⟨max n1 n2, ?_⟩
            rw [pz_exec_le (Nat.le_max_left n1 n2) h5, Option.bind_some, hs]
            exact pz_exec_le (Nat.le_max_right n1 n2) h6
    obtain ⟨n, hn⟩ := key
    exact pz_runT_iff.mpr ⟨n + 1, hn⟩
  cases h1 : pz_runT T d mid σ with
  | some r => exact (one r h1).symm
  | none =>
    cases h2 : pz_step T (pz_runT T) d mid σ with
    | none => rfl
    | some r => rw [two r h2] at h1; cases h1
/-! the steps of a run, one by one -/
theorem pz_runT_op {T : List pz_Row} {d mid : Nat} {row : pz_Row} {σ σ' : pz_S} {f : pz_F} (h1 : T[mid]? = some row) (h2 : pz_look (rw_p row) σ.1 = some (.inl f)) (h3 : f σ = some (.inl σ')) : pz_runT T d mid σ = pz_runT T d mid σ' := by
  rw [pz_runT_eq, pz_step, h1, Option.bind_some, h2, Option.bind_some]
  simp only [h3, Option.bind_some]
theorem pz_runT_ret {T : List pz_Row} {d mid : Nat} {row : pz_Row} {σ : pz_S} {r : pz_A} {f : pz_F} (h1 : T[mid]? = some row) (h2 : pz_look (rw_p row) σ.1 = some (.inl f)) (h3 : f σ = some (.inr r)) : pz_runT T d mid σ = some r := by
  rw [pz_runT_eq, pz_step, h1, Option.bind_some, h2, Option.bind_some]
  simp only [h3, Option.bind_some]
theorem pz_runT_no {T : List pz_Row} {d mid : Nat} {row : pz_Row} {σ : pz_S} {f : pz_F} (h1 : T[mid]? = some row) (h2 : pz_look (rw_p row) σ.1 = some (.inl f)) (h3 : f σ = none) : pz_runT T d mid σ = none := by
  rw [pz_runT_eq, pz_step, h1, Option.bind_some, h2, Option.bind_some]
  simp only [h3, Option.bind_none]
theorem pz_runT_call {T : List pz_Row} {d mid q na rc : Nat} {row row' : pz_Row} {σ : pz_S} (h1 : T[mid]? = some row) (h2 : pz_look (rw_p row) σ.1 = some (.inr (q, na, rc))) (h3 : T[q]? = some row') (h4 : pz_cok row' d na rc σ.2.2.1 = true) : pz_runT T d mid σ = (pz_runT T (pz_cd (rw_l row') d) q (0, pz_ent (rw_n row') (σ.2.2.1.take na).reverse, [], σ.2.2.2)).bind fun a => bif pz_shp (rw_t row') a.1 then pz_runT T d mid (σ.1 + 3, σ.2.1, a.1.toList ++ σ.2.2.1.drop na, a.2) else none := by
  rw [pz_runT_eq, pz_step, h1, Option.bind_some, h2, Option.bind_some]
  simp only [h3, Option.bind_some, h4, cond_true]
