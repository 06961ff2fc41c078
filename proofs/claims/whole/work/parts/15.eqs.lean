/-! ===== runs as equations: the words, and a row for each step that asks something ===== -/
noncomputable abbrev pzr (d mid : Nat) (σ : pz_S) : Option pz_A := pz_runT pz_T d mid σ
def grd (P : Prop) [Decidable P] (x : Option pz_A) : Option pz_A := if P then x else none
def bI (o : Option pz_A) (k : Int → pz_M → Option pz_A) : Option pz_A := match o with
  | some (some (.inl x), M) => k x M
  | _ => none
def bV (o : Option pz_A) (k : pz_M → Option pz_A) : Option pz_A := match o with
  | some (none, M) => k M
  | _ => none
def bM (m : pz_M) (k : pz_M → Option pz_A) : Option pz_A := k m
theorem bI_some {x : Int} {M : pz_M} {k : Int → pz_M → Option pz_A} : bI (some (some (pzI x), M)) k = k x M := rfl
theorem bV_some {M : pz_M} {k : pz_M → Option pz_A} : bV (some (none, M)) k = k M := rfl
theorem bM_eq {M : pz_M} {k : pz_M → Option pz_A} : bM M k = k M := rfl
theorem grd_pos {P : Prop} [Decidable P] {x : Option pz_A} (h : P) : grd P x = x := if_pos h
theorem grd_neg {P : Prop} [Decidable P] {x : Option pz_A} (h : ¬ P) : grd P x = none := if_neg h
def ia (x y : Int) : Int := (f_add (pzJ x) (pzJ y)).toInt
def isb (x y : Int) : Int := (f_sub (pzJ x) (pzJ y)).toInt
def imu (x y : Int) : Int := (f_mul (pzJ x) (pzJ y)).toInt
def ian (x y : Int) : Int := (f_and (pzJ x) (pzJ y)).toInt
def iro (x y : Int) : Int := (f_or (pzJ x) (pzJ y)).toInt
def ixo (x y : Int) : Int := (f_xor (pzJ x) (pzJ y)).toInt
def idv (x y : Int) : Int := (f_div (pzJ x) (pzJ y)).toInt
def irm (x y : Int) : Int := (f_rem (pzJ x) (pzJ y)).toInt
def ihl (x y : Int) : Int := (f_shl (pzJ x) (pzJ y)).toInt
def ihr (x y : Int) : Int := (f_shr (pzJ x) (pzJ y)).toInt
def iuh (x y : Int) : Int := (f_ushr (pzJ x) (pzJ y)).toInt
def ing (x : Int) : Int := (f_neg (pzJ x)).toInt
def itb (x : Int) : Int := (f_i2b (pzJ x)).toInt
def itc (x : Int) : Int := (f_i2c (pzJ x)).toInt
/-- steps that ask nothing, so many -/
def pz_go (P : List (Nat × pz_O)) : Nat → pz_S → Option pz_S
  | 0, σ => some σ
  | n + 1, σ => match pz_look P σ.1 with
    | some (.inl f) => match f σ with
      | some (.inl σ') => pz_go P n σ'
      | _ => none
    | _ => none
theorem pz_goes {d mid : Nat} {row : pz_Row} (h1 : pz_T[mid]? = some row) : ∀ (n : Nat) {σ σ' : pz_S}, pz_go (rw_p row) n σ = some σ' → pzr d mid σ = pzr d mid σ' := by
  intro n
  induction n with
  | zero => intro σ σ' h; cases h; rfl
  | succ n ih =>
    intro σ σ' h
    unfold pz_go at h
    split at h
    · rename_i f h2
      split at h
      · rename_i σ1 h3
        exact (pz_runT_op h1 h2 h3).trans (ih h)
      · cases h
    · cases h
section PZE
variable {d mid pc nx t : Nat} {row : pz_Row} {ls st : List pz_V} {M : pz_M} {x y i : Int} {k a f n : Nat}
theorem e_icmp {c0 : Int → Int → Bool} (h1 : pz_T[mid]? = some row) (h2 : pz_look (rw_p row) pc = some (.inl (op_icmp c0 t nx))) : pzr d mid (pc, ls, pzI y :: pzI x :: st, M) = bif c0 x y then pzr d mid (t, ls, st, M) else pzr d mid (nx, ls, st, M) := by
  rw [pzr, pz_runT_op h1 h2 (σ' := (bif c0 x y then t else nx, ls, st, M)) rfl]
  cases c0 x y <;> rfl
theorem e_ifz {c0 : Int → Int → Bool} (h1 : pz_T[mid]? = some row) (h2 : pz_look (rw_p row) pc = some (.inl (op_ifz c0 t nx))) : pzr d mid (pc, ls, pzI x :: st, M) = bif c0 x 0 then pzr d mid (t, ls, st, M) else pzr d mid (nx, ls, st, M) := by
  rw [pzr, pz_runT_op h1 h2 (σ' := (bif c0 x 0 then t else nx, ls, st, M)) rfl]
  cases c0 x 0 <;> rfl
theorem bif_dec {P : Prop} [Decidable P] {α : Type} {u v : α} : (bif decide P then u else v) = if P then u else v := by
  by_cases h : P <;> simp [h]
theorem e_icmp_eq (h1 : pz_T[mid]? = some row) (h2 : pz_look (rw_p row) pc = some (.inl (op_icmp c_eq t nx))) : pzr d mid (pc, ls, pzI y :: pzI x :: st, M) = if x = y then pzr d mid (t, ls, st, M) else pzr d mid (nx, ls, st, M) := (e_icmp h1 h2).trans bif_dec
theorem e_icmp_ne (h1 : pz_T[mid]? = some row) (h2 : pz_look (rw_p row) pc = some (.inl (op_icmp c_ne t nx))) : pzr d mid (pc, ls, pzI y :: pzI x :: st, M) = if x = y then pzr d mid (nx, ls, st, M) else pzr d mid (t, ls, st, M) := (e_icmp h1 h2).trans (bif_dec.trans (by by_cases h : x = y <;> simp [h]))
theorem e_icmp_lt (h1 : pz_T[mid]? = some row) (h2 : pz_look (rw_p row) pc = some (.inl (op_icmp c_lt t nx))) : pzr d mid (pc, ls, pzI y :: pzI x :: st, M) = if x < y then pzr d mid (t, ls, st, M) else pzr d mid (nx, ls, st, M) := (e_icmp h1 h2).trans bif_dec
theorem e_icmp_ge (h1 : pz_T[mid]? = some row) (h2 : pz_look (rw_p row) pc = some (.inl (op_icmp c_ge t nx))) : pzr d mid (pc, ls, pzI y :: pzI x :: st, M) = if x < y then pzr d mid (nx, ls, st, M) else pzr d mid (t, ls, st, M) := (e_icmp h1 h2).trans (bif_dec.trans (by by_cases h : x < y <;> simp [h, Int.not_le.mpr, Int.not_lt.mp]))
theorem e_icmp_gt (h1 : pz_T[mid]? = some row) (h2 : pz_look (rw_p row) pc = some (.inl (op_icmp c_gt t nx))) : pzr d mid (pc, ls, pzI y :: pzI x :: st, M) = if y < x then pzr d mid (t, ls, st, M) else pzr d mid (nx, ls, st, M) := (e_icmp h1 h2).trans bif_dec
theorem e_icmp_le (h1 : pz_T[mid]? = some row) (h2 : pz_look (rw_p row) pc = some (.inl (op_icmp c_le t nx))) : pzr d mid (pc, ls, pzI y :: pzI x :: st, M) = if y < x then pzr d mid (nx, ls, st, M) else pzr d mid (t, ls, st, M) := (e_icmp h1 h2).trans (bif_dec.trans (by by_cases h : y < x <;> simp [h, Int.not_le.mpr, Int.not_lt.mp]))
theorem e_if_eq (h1 : pz_T[mid]? = some row) (h2 : pz_look (rw_p row) pc = some (.inl (op_ifz c_eq t nx))) : pzr d mid (pc, ls, pzI x :: st, M) = if x = 0 then pzr d mid (t, ls, st, M) else pzr d mid (nx, ls, st, M) := (e_ifz h1 h2).trans bif_dec
theorem e_if_ne (h1 : pz_T[mid]? = some row) (h2 : pz_look (rw_p row) pc = some (.inl (op_ifz c_ne t nx))) : pzr d mid (pc, ls, pzI x :: st, M) = if x = 0 then pzr d mid (nx, ls, st, M) else pzr d mid (t, ls, st, M) := (e_ifz h1 h2).trans (bif_dec.trans (by by_cases h : x = 0 <;> simp [h]))
theorem e_if_lt (h1 : pz_T[mid]? = some row) (h2 : pz_look (rw_p row) pc = some (.inl (op_ifz c_lt t nx))) : pzr d mid (pc, ls, pzI x :: st, M) = if x < 0 then pzr d mid (t, ls, st, M) else pzr d mid (nx, ls, st, M) := (e_ifz h1 h2).trans bif_dec
theorem e_if_ge (h1 : pz_T[mid]? = some row) (h2 : pz_look (rw_p row) pc = some (.inl (op_ifz c_ge t nx))) : pzr d mid (pc, ls, pzI x :: st, M) = if x < 0 then pzr d mid (nx, ls, st, M) else pzr d mid (t, ls, st, M) := (e_ifz h1 h2).trans (bif_dec.trans (by by_cases h : x < 0 <;> simp [h, Int.not_le.mpr, Int.not_lt.mp]))
theorem e_if_gt (h1 : pz_T[mid]? = some row) (h2 : pz_look (rw_p row) pc = some (.inl (op_ifz c_gt t nx))) : pzr d mid (pc, ls, pzI x :: st, M) = if 0 < x then pzr d mid (t, ls, st, M) else pzr d mid (nx, ls, st, M) := (e_ifz h1 h2).trans bif_dec
theorem e_if_le (h1 : pz_T[mid]? = some row) (h2 : pz_look (rw_p row) pc = some (.inl (op_ifz c_le t nx))) : pzr d mid (pc, ls, pzI x :: st, M) = if 0 < x then pzr d mid (nx, ls, st, M) else pzr d mid (t, ls, st, M) := (e_ifz h1 h2).trans (bif_dec.trans (by by_cases h : 0 < x <;> simp [h, Int.not_le.mpr, Int.not_lt.mp]))
theorem e_sw {l0 : List (Int × Nat)} {d0 : Nat} (h1 : pz_T[mid]? = some row) (h2 : pz_look (rw_p row) pc = some (.inl (op_sw l0 d0))) : pzr d mid (pc, ls, pzI x :: st, M) = pzr d mid (pz_sel l0 d0 x, ls, st, M) := pz_runT_op h1 h2 rfl
theorem e_sel {q : Int × Nat} {r : List (Int × Nat)} {d0 : Nat} : pzr d mid (pz_sel (q :: r) d0 x, ls, st, M) = if x = q.1 then pzr d mid (q.2, ls, st, M) else pzr d mid (pz_sel r d0 x, ls, st, M) := by
  by_cases h : x = q.1
  · rw [if_pos h]; simp only [pz_sel, if_pos h]
  · rw [if_neg h]; simp only [pz_sel, if_neg h]
theorem e_div {g : Int32 → Int32 → Int32} (h1 : pz_T[mid]? = some row) (h2 : pz_look (rw_p row) pc = some (.inl (op_stk (sg_div g) nx))) : pzr d mid (pc, ls, pzI y :: pzI x :: st, M) = grd (y ≠ 0) (pzr d mid (nx, ls, pzI (g (pzJ x) (pzJ y)).toInt :: st, M)) := by
  by_cases h : y = 0
  · rw [grd_neg (fun z => z h)]
    exact pz_runT_no h1 h2 (by simp [op_stk, sg_div, h])
  · rw [grd_pos h]
    exact pz_runT_op h1 h2 (by simp [op_stk, sg_div, h])
theorem e_bd {α : Type} {P : Prop} [Decidable P] {b : Bool} {u : α} (hb : b = decide P) : (bif b then some u else none) = if P then some u else none := by
  subst hb; by_cases h : P <;> simp [h]
theorem e_iald (hk : pz_cls k = a) (hn : pz_len k = n) (h1 : pz_T[mid]? = some row) (h2 : pz_look (rw_p row) pc = some (.inl (op_iald a nx))) : pzr d mid (pc, ls, pzI i :: pzR k :: st, M) = grd (0 ≤ i ∧ i < n) (pzr d mid (nx, ls, pzI (M k i.toNat) :: st, M)) := by
  subst hk; subst hn
  by_cases h : 0 ≤ i ∧ i < (pz_len k : Int)
  · rw [grd_pos h]
    exact pz_runT_op h1 h2 (by simp [op_iald, h])
  · rw [grd_neg h]
    exact pz_runT_no h1 h2 (by simp only [op_iald, Nat.beq_refl, Bool.true_and, ← Bool.decide_and, h]; rfl)
theorem e_iaU (h1 : pz_T[mid]? = some row) (h2 : pz_look (rw_p row) pc = some (.inl (op_iald a nx))) : pzr d mid (pc, ls, pzI i :: pzR k :: st, M) = grd (pz_cls k = a ∧ 0 ≤ i ∧ i < pz_len k) (pzr d mid (nx, ls, pzI (M k i.toNat) :: st, M)) := by
  by_cases hk : pz_cls k = a
  · rw [e_iald hk rfl h1 h2]
    by_cases h : 0 ≤ i ∧ i < (pz_len k : Int)
    · rw [grd_pos h, grd_pos ⟨hk, h⟩]
    · rw [grd_neg h, grd_neg (fun z => h z.2)]
  · rw [grd_neg (fun z => hk z.1)]
    refine pz_runT_no h1 h2 ?_
    have : Nat.beq (pz_cls k) a = false := by
      cases hb : Nat.beq (pz_cls k) a with
      | false => rfl
      | true => exact absurd (Nat.eq_of_beq_eq_true hb) hk
    simp [op_iald, this]
theorem e_iast (hk : pz_cls k = a) (hn : pz_len k = n) (h1 : pz_T[mid]? = some row) (h2 : pz_look (rw_p row) pc = some (.inl (op_iast a nx))) : pzr d mid (pc, ls, pzI x :: pzI i :: pzR k :: st, M) = grd (0 ≤ i ∧ i < n) (pzr d mid (nx, ls, st, pz_wr M k i.toNat x)) := by
  subst hk; subst hn
  by_cases h : 0 ≤ i ∧ i < (pz_len k : Int)
  · rw [grd_pos h]
    exact pz_runT_op h1 h2 (by simp [op_iast, h])
  · rw [grd_neg h]
    exact pz_runT_no h1 h2 (by simp only [op_iast, Nat.beq_refl, Bool.true_and, ← Bool.decide_and, h]; rfl)
theorem e_isU (h1 : pz_T[mid]? = some row) (h2 : pz_look (rw_p row) pc = some (.inl (op_iast a nx))) : pzr d mid (pc, ls, pzI x :: pzI i :: pzR k :: st, M) = grd (pz_cls k = a ∧ 0 ≤ i ∧ i < pz_len k) (pzr d mid (nx, ls, st, pz_wr M k i.toNat x)) := by
  by_cases hk : pz_cls k = a
  · rw [e_iast hk rfl h1 h2]
    by_cases h : 0 ≤ i ∧ i < (pz_len k : Int)
    · rw [grd_pos h, grd_pos ⟨hk, h⟩]
    · rw [grd_neg h, grd_neg (fun z => h z.2)]
  · rw [grd_neg (fun z => hk z.1)]
    refine pz_runT_no h1 h2 ?_
    have : Nat.beq (pz_cls k) a = false := by
      cases hb : Nat.beq (pz_cls k) a with
      | false => rfl
      | true => exact absurd (Nat.eq_of_beq_eq_true hb) hk
    simp [op_iast, this]
theorem e_bast (hk : pz_cls k = a) (hn : pz_len k = n) (h1 : pz_T[mid]? = some row) (h2 : pz_look (rw_p row) pc = some (.inl (op_bast a nx))) : pzr d mid (pc, ls, pzI x :: pzI i :: pzR k :: st, M) = grd (0 ≤ i ∧ i < n) (pzr d mid (nx, ls, st, pz_wr M k i.toNat (itb x))) := by
  subst hk; subst hn
  by_cases h : 0 ≤ i ∧ i < (pz_len k : Int)
  · rw [grd_pos h]
    exact pz_runT_op h1 h2 (by simp [op_bast, h, itb])
  · rw [grd_neg h]
    exact pz_runT_no h1 h2 (by simp only [op_bast, Nat.beq_refl, Bool.true_and, ← Bool.decide_and, h]; rfl)
theorem e_getI (hk : pz_cls k = a) (h1 : pz_T[mid]? = some row) (h2 : pz_look (rw_p row) pc = some (.inl (op_getI a f nx))) : pzr d mid (pc, ls, pzR k :: st, M) = pzr d mid (nx, ls, pzI (M k f) :: st, M) := by
  subst hk; exact pz_runT_op h1 h2 (by simp [op_getI])
theorem e_getR (hk : pz_cls k = a) (hr : pz_ref k f = n) (h1 : pz_T[mid]? = some row) (h2 : pz_look (rw_p row) pc = some (.inl (op_getR a f nx))) : pzr d mid (pc, ls, pzR k :: st, M) = pzr d mid (nx, ls, pzR n :: st, M) := by
  subst hk; subst hr; exact pz_runT_op h1 h2 (by simp [op_getR])
theorem e_getM (hk : pz_cls k = a) (h1 : pz_T[mid]? = some row) (h2 : pz_look (rw_p row) pc = some (.inl (op_getM a f nx))) : pzr d mid (pc, ls, pzR k :: st, M) = pzr d mid (nx, ls, pzR (M k f).toNat :: st, M) := by
  subst hk; exact pz_runT_op h1 h2 (by simp [op_getM])
theorem e_beqF {u v : Nat} (h : ¬ u = v) : Nat.beq u v = false := by
  cases hb : Nat.beq u v with
  | false => rfl
  | true => exact absurd (Nat.eq_of_beq_eq_true hb) h
theorem e_getIU (h1 : pz_T[mid]? = some row) (h2 : pz_look (rw_p row) pc = some (.inl (op_getI a f nx))) : pzr d mid (pc, ls, pzR k :: st, M) = grd (pz_cls k = a) (pzr d mid (nx, ls, pzI (M k f) :: st, M)) := by
  by_cases hk : pz_cls k = a
  · rw [grd_pos hk]; exact e_getI hk h1 h2
  · rw [grd_neg hk]; exact pz_runT_no h1 h2 (by simp [op_getI, e_beqF hk])
theorem e_getRU (h1 : pz_T[mid]? = some row) (h2 : pz_look (rw_p row) pc = some (.inl (op_getR a f nx))) : pzr d mid (pc, ls, pzR k :: st, M) = grd (pz_cls k = a) (pzr d mid (nx, ls, pzR (pz_ref k f) :: st, M)) := by
  by_cases hk : pz_cls k = a
  · rw [grd_pos hk]; exact e_getR hk rfl h1 h2
  · rw [grd_neg hk]; exact pz_runT_no h1 h2 (by simp [op_getR, e_beqF hk])
theorem e_putI (hk : pz_cls k = a) (h1 : pz_T[mid]? = some row) (h2 : pz_look (rw_p row) pc = some (.inl (op_putI false a f nx))) : pzr d mid (pc, ls, pzI x :: pzR k :: st, M) = pzr d mid (nx, ls, st, pz_wr M k f x) := by
  subst hk; exact pz_runT_op h1 h2 (by simp [op_putI])
theorem e_putZ (hk : pz_cls k = a) (h1 : pz_T[mid]? = some row) (h2 : pz_look (rw_p row) pc = some (.inl (op_putI true a f nx))) : pzr d mid (pc, ls, pzI x :: pzR k :: st, M) = grd (x = 0 ∨ x = 1) (pzr d mid (nx, ls, st, pz_wr M k f x)) := by
  subst hk
  by_cases h : x = 0 ∨ x = 1
  · rw [grd_pos h]; exact pz_runT_op h1 h2 (by rcases h with rfl | rfl <;> simp [op_putI])
  · rw [grd_neg h]; exact pz_runT_no h1 h2 (by simp [op_putI, not_or.mp h])
theorem e_putM (hk : pz_cls k = a) (h1 : pz_T[mid]? = some row) (h2 : pz_look (rw_p row) pc = some (.inl (op_putM a f nx))) : pzr d mid (pc, ls, pzR n :: pzR k :: st, M) = grd (n ≤ 200) (pzr d mid (nx, ls, st, pz_wr M k f n)) := by
  subst hk
  by_cases h : n ≤ 200
  · rw [grd_pos h]; exact pz_runT_op h1 h2 (by simp [op_putM, Nat.ble_eq_true_of_le h])
  · rw [grd_neg h]
    refine pz_runT_no h1 h2 ?_
    have : Nat.ble n 200 = false := by
      cases hb : Nat.ble n 200 with
      | false => rfl
      | true => exact absurd (Nat.le_of_ble_eq_true hb) h
    simp [op_putM, this]
theorem e_alen (hk : pz_cls k = a) (h1 : pz_T[mid]? = some row) (h2 : pz_look (rw_p row) pc = some (.inl (op_alen a nx))) : pzr d mid (pc, ls, pzR k :: st, M) = pzr d mid (nx, ls, pzI (pz_len k) :: st, M) := by
  subst hk; exact pz_runT_op h1 h2 (by simp [op_alen])
theorem e_ret (h1 : pz_T[mid]? = some row) (h2 : pz_look (rw_p row) pc = some (.inl op_ret)) : pzr d mid (pc, ls, [], M) = some (none, M) := pz_runT_ret h1 h2 rfl
theorem e_iret (h1 : pz_T[mid]? = some row) (h2 : pz_look (rw_p row) pc = some (.inl (op_iret g_int))) : pzr d mid (pc, ls, [pzI x], M) = some (some (pzI x), M) := pz_runT_ret h1 h2 rfl
theorem e_zret (h1 : pz_T[mid]? = some row) (h2 : pz_look (rw_p row) pc = some (.inl (op_iret g_bool))) : pzr d mid (pc, ls, [pzI x], M) = grd (x = 0 ∨ x = 1) (some (some (pzI x), M)) := by
  by_cases h : x = 0 ∨ x = 1
  · rw [grd_pos h]; exact pz_runT_ret h1 h2 (by rcases h with rfl | rfl <;> simp [op_iret, g_bool])
  · rw [grd_neg h]; exact pz_runT_no h1 h2 (by simp [op_iret, g_bool, not_or.mp h])
theorem e_gret {g : Int → Bool} (h1 : pz_T[mid]? = some row) (h2 : pz_look (rw_p row) pc = some (.inl (op_iret g))) : pzr d mid (pc, ls, [pzI x], M) = grd (g x = true) (some (some (pzI x), M)) := by
  by_cases h : g x = true
  · rw [grd_pos h]; exact pz_runT_ret h1 h2 (by simp [op_iret, h])
  · rw [grd_neg h]; exact pz_runT_no h1 h2 (by simp [op_iret, h])
theorem e_tald (h1 : pz_T[mid]? = some row) (h2 : pz_look (rw_p row) pc = some (.inl (op_tald nx))) : pzr d mid (pc, ls, pzI i :: pzR 80 :: st, M) = grd (0 ≤ i ∧ i < 8) (pzr d mid (nx, ls, pzI (pz_ords.getD i.toNat 0).toInt :: st, M)) := by
  by_cases h : 0 ≤ i ∧ i < 8
  · rw [grd_pos h]; exact pz_runT_op h1 h2 (by simp [op_tald, h])
  · rw [grd_neg h]; exact pz_runT_no h1 h2 (by simp only [op_tald, Nat.beq_refl, Bool.true_and, ← Bool.decide_and, h]; rfl)
theorem e_sval (hk : pz_cls k = 24) (h1 : pz_T[mid]? = some row) (h2 : pz_look (rw_p row) pc = some (.inl (op_sval nx))) : pzr d mid (pc, ls, pzR k :: st, M) = pzr d mid (nx, ls, pzR (k + 5) :: st, M) := pz_runT_op h1 h2 (by simp [op_sval, hk])
theorem e_scod (hk : pz_cls k = 24) (h1 : pz_T[mid]? = some row) (h2 : pz_look (rw_p row) pc = some (.inl (op_scod nx))) : pzr d mid (pc, ls, pzR k :: st, M) = pzr d mid (nx, ls, pzI 0 :: st, M) := pz_runT_op h1 h2 (by simp [op_scod, hk])
theorem e_slen (hk : pz_cls k = 25) (h1 : pz_T[mid]? = some row) (h2 : pz_look (rw_p row) pc = some (.inl (op_slen nx))) : pzr d mid (pc, ls, pzR k :: st, M) = pzr d mid (nx, ls, pzI (pz_sln.getD (k - 86) 0) :: st, M) := pz_runT_op h1 h2 (by simp [op_slen, hk])
theorem e_sbld (hk : pz_cls k = 25) (h1 : pz_T[mid]? = some row) (h2 : pz_look (rw_p row) pc = some (.inl (op_sbld nx))) : pzr d mid (pc, ls, pzI i :: pzR k :: st, M) = grd (0 ≤ i ∧ i < pz_sln.getD (k - 86) 0) (pzr d mid (nx, ls, pzI ((pz_sby.getD (k - 86) []).getD i.toNat 0).toInt :: st, M)) := by
  by_cases h : 0 ≤ i ∧ i < (pz_sln.getD (k - 86) 0 : Int)
  · rw [grd_pos h]; exact pz_runT_op h1 h2 (by simp only [op_sbld, hk, Nat.beq_refl, Bool.true_and, ← Bool.decide_and, h]; rfl)
  · rw [grd_neg h]; exact pz_runT_no h1 h2 (by simp only [op_sbld, hk, Nat.beq_refl, Bool.true_and, ← Bool.decide_and, h]; rfl)
theorem e_chk (hs : Nat.ble st.length 8 = true) (h1 : pz_T[mid]? = some row) (h2 : pz_look (rw_p row) pc = some (.inl (op_chk nx))) : pzr d mid (pc, ls, pzI y :: pzI x :: st, M) = grd (0 ≤ x ∧ x < y) (pzr d mid (nx, ls, st, M)) := by
  by_cases h : 0 ≤ x ∧ x < y
  · rw [grd_pos h]; exact pz_runT_op h1 h2 (by simp only [op_chk, hs, Bool.and_true, ← Bool.decide_and, h]; rfl)
  · rw [grd_neg h]; exact pz_runT_no h1 h2 (by simp only [op_chk, hs, Bool.and_true, ← Bool.decide_and, h]; rfl)
theorem e_copy {k0 k1 n0 n1 : Nat} {sp dp z : Int} (hk0 : pz_cls k0 = a) (hk1 : pz_cls k1 = a) (hn0 : pz_len k0 = n0) (hn1 : pz_len k1 = n1) (hs : Nat.ble st.length 8 = true) (h1 : pz_T[mid]? = some row) (h2 : pz_look (rw_p row) pc = some (.inl (op_copy a nx))) : pzr d mid (pc, ls, pzI z :: pzI dp :: pzR k1 :: pzI sp :: pzR k0 :: st, M) = grd (0 ≤ sp ∧ 0 ≤ dp ∧ 0 ≤ z ∧ sp + z ≤ n0 ∧ dp + z ≤ n1) (pzr d mid (nx, ls, st, pz_cpy M k0 k1 sp.toNat dp.toNat z.toNat)) := by
  subst hn0; subst hn1; subst hk0
  by_cases h : 0 ≤ sp ∧ 0 ≤ dp ∧ 0 ≤ z ∧ sp + z ≤ (pz_len k0 : Int) ∧ dp + z ≤ (pz_len k1 : Int)
  · rw [grd_pos h]; exact pz_runT_op h1 h2 (by simp only [op_copy, hk1, hs, Nat.beq_refl, Bool.true_and, Bool.and_true, ← Bool.decide_and, h]; rfl)
  · rw [grd_neg h]; exact pz_runT_no h1 h2 (by simp only [op_copy, hk1, hs, Nat.beq_refl, Bool.true_and, Bool.and_true, ← Bool.decide_and, h]; rfl)
/-- calls -/
theorem e_callI {q na rc d' : Nat} {row' : pz_Row} {ty : FieldType} {as rest : List pz_V} (hq : pz_T[q]? = some row') (ht : rw_t row' = some ty) (hc : pz_cok row' d na rc st = true) (hd : pz_cd (rw_l row') d = d') (ha : pz_ent (rw_n row') (st.take na).reverse = as) (hr : st.drop na = rest) (h1 : pz_T[mid]? = some row) (h2 : pz_look (rw_p row) pc = some (.inr (q, na, rc))) : pzr d mid (pc, ls, st, M) = bI (pzr d' q (0, as, [], M)) (fun x M' => pzr d mid (pc + 3, ls, pzI x :: rest, M')) := by
  subst hd; subst ha; subst hr
  show pz_runT pz_T d mid (pc, ls, st, M) = bI (pz_runT pz_T (pz_cd (rw_l row') d) q (0, pz_ent (rw_n row') (st.take na).reverse, [], M)) (fun x M' => pzr d mid (pc + 3, ls, pzI x :: st.drop na, M'))
  rw [pz_runT_call h1 h2 hq hc]
  dsimp only
  cases hz : pz_runT pz_T (pz_cd (rw_l row') d) q (0, pz_ent (rw_n row') (st.take na).reverse, [], M) with
  | none => rfl
  | some z =>
    obtain ⟨v, M'⟩ := z
    rw [Option.bind_some, ht]
    rcases v with _ | v
    · rfl
    · rcases v with x | v <;> rfl
theorem e_callV {q na rc d' : Nat} {row' : pz_Row} {as rest : List pz_V} (hq : pz_T[q]? = some row') (ht : rw_t row' = none) (hc : pz_cok row' d na rc st = true) (hd : pz_cd (rw_l row') d = d') (ha : pz_ent (rw_n row') (st.take na).reverse = as) (hr : st.drop na = rest) (h1 : pz_T[mid]? = some row) (h2 : pz_look (rw_p row) pc = some (.inr (q, na, rc))) : pzr d mid (pc, ls, st, M) = bV (pzr d' q (0, as, [], M)) (fun M' => pzr d mid (pc + 3, ls, rest, M')) := by
  subst hd; subst ha; subst hr
  show pz_runT pz_T d mid (pc, ls, st, M) = bV (pz_runT pz_T (pz_cd (rw_l row') d) q (0, pz_ent (rw_n row') (st.take na).reverse, [], M)) (fun M' => pzr d mid (pc + 3, ls, st.drop na, M'))
  rw [pz_runT_call h1 h2 hq hc]
  dsimp only
  cases hz : pz_runT pz_T (pz_cd (rw_l row') d) q (0, pz_ent (rw_n row') (st.take na).reverse, [], M) with
  | none => rfl
  | some z =>
    obtain ⟨v, M'⟩ := z
    rw [Option.bind_some, ht]
    rcases v with _ | v <;> rfl
theorem e_callno {q na rc : Nat} {row' : pz_Row} (hq : pz_T[q]? = some row') (hc : pz_cok row' d na rc st = false) (h1 : pz_T[mid]? = some row) (h2 : pz_look (rw_p row) pc = some (.inr (q, na, rc))) : pzr d mid (pc, ls, st, M) = none := by
  rw [pzr, pz_runT_eq, pz_step, h1, Option.bind_some, h2, Option.bind_some]
  simp only [hq, Option.bind_some, hc, cond_false]
theorem e_gcall {q na rc : Nat} {row' : pz_Row} {P : Prop} [Decidable P] {z : Option pz_A} (hq : pz_T[q]? = some row') (hc : pz_cok row' d na rc st = decide P) (h1 : pz_T[mid]? = some row) (h2 : pz_look (rw_p row) pc = some (.inr (q, na, rc))) (hz : pz_cok row' d na rc st = true → pzr d mid (pc, ls, st, M) = z) : pzr d mid (pc, ls, st, M) = grd P z := by
  by_cases h : P
  · rw [grd_pos h]; exact hz (by rw [hc]; exact decide_eq_true h)
  · rw [grd_neg h]; exact e_callno hq (by rw [hc]; exact decide_eq_false h) h1 h2
theorem e_stop (h1 : pz_T[mid]? = some row) (h2 : pz_look (rw_p row) pc = none) : pzr d mid (pc, ls, st, M) = none := by
  rw [pzr, pz_runT_eq, pz_step, h1, Option.bind_some, h2, Option.bind_none]
theorem e_ite {P : Prop} [Decidable P] {u v u' v' : Option pz_A} (h1 : u = u') (h2 : v = v') : (if P then u else v) = if P then u' else v' := by rw [h1, h2]
theorem e_grd {P : Prop} [Decidable P] {u u' : Option pz_A} (h1 : u = u') : grd P u = grd P u' := by rw [h1]
theorem e_bI {o o' : Option pz_A} {k k' : Int → pz_M → Option pz_A} (h1 : o = o') (h2 : ∀ x M, k x M = k' x M) : bI o k = bI o' k' := by rw [h1, show k = k' from funext fun x => funext fun M => h2 x M]
theorem e_bV {o o' : Option pz_A} {k k' : pz_M → Option pz_A} (h1 : o = o') (h2 : ∀ M, k M = k' M) : bV o k = bV o' k' := by rw [h1, show k = k' from funext fun M => h2 M]
theorem e_bM {m : pz_M} {f g : pz_M → Option pz_A} (h : ∀ M1, f M1 = g M1) : f m = bM m g := h m
end PZE
