/-! ===== steps: rows, ends, copies, constants ===== -/
def op_iald (a nx : Nat) : pz_F := fun σ => match σ.2.2.1 with
  | .inl i :: .inr (some k) :: st => bif Nat.beq (pz_cls k) a && (decide (0 ≤ i) && decide (i < pz_len k)) then some (.inl (nx, σ.2.1, pzI (σ.2.2.2 k i.toNat) :: st, σ.2.2.2)) else none
  | _ => none
def op_iast (a nx : Nat) : pz_F := fun σ => match σ.2.2.1 with
  | .inl x :: .inl i :: .inr (some k) :: st => bif Nat.beq (pz_cls k) a && (decide (0 ≤ i) && decide (i < pz_len k)) then some (.inl (nx, σ.2.1, st, pz_wr σ.2.2.2 k i.toNat x)) else none
  | _ => none
def op_bast (a nx : Nat) : pz_F := fun σ => match σ.2.2.1 with
  | .inl x :: .inl i :: .inr (some k) :: st => bif Nat.beq (pz_cls k) a && (decide (0 ≤ i) && decide (i < pz_len k)) then some (.inl (nx, σ.2.1, st, pz_wr σ.2.2.2 k i.toNat (f_i2b (pzJ x)).toInt)) else none
  | _ => none
def op_alen (a nx : Nat) : pz_F := fun σ => match σ.2.2.1 with
  | .inr (some k) :: st => bif Nat.beq (pz_cls k) a then some (.inl (nx, σ.2.1, pzI (pz_len k) :: st, σ.2.2.2)) else none
  | _ => none
def op_ret : pz_F := fun σ => match σ.2.2.1 with
  | [] => some (.inr (none, σ.2.2.2))
  | _ => none
/-- g: which answers the type takes as they are -/
def op_iret (g : Int → Bool) : pz_F := fun σ => match σ.2.2.1 with
  | [.inl x] => bif g x then some (.inr (some (pzI x), σ.2.2.2)) else none
  | _ => none
def g_int (_ : Int) : Bool := true
def g_bool (x : Int) : Bool := decide (x = 0) || decide (x = 1)
def g_char (x : Int) : Bool := decide (0 ≤ x) && decide (x < 65536)
def g_byte (x : Int) : Bool := decide (-128 ≤ x) && decide (x < 128)
theorem pz_clamp {i : Int} (hi : pz_in i) : (pzJ i).toNatClampNeg = i.toNat := by
  show (pzJ i).toInt.toNat = i.toNat
  rw [hi]
theorem pz_vin {i : Int} {n : Nat} (hi : pz_in i) (h0 : 0 ≤ i) (h1 : i < n) : vp_in (pzJ i) n := by
  unfold vp_in
  rw [pz_clamp hi, ← pz_J_0, pz_J_lt hi pz_in_0]
  omega
theorem pz_row_at {sd : Bool} {cI cB : ClassId} {ad : Nat → Nat} {M : pz_M} {k a : Nat} (hk : pz_cls k = a) (hs : pz_sid sd a = true) (ha : 20 ≤ a ∧ a ≤ 22) : ∃ j, j < pz_K sd ∧ pz_b sd j = k ∧ (pz_ws sd cI cB ad M)[j]? = some (ad k, .inl ((if a = 22 then cB else cI), pz_len k, .inl (fun i => Int32.ofInt (M k i)))) ∧ ∀ N : pz_M, pz_cell cI cB ad N k = .inl ((if a = 22 then cB else cI), pz_len k, .inl (fun i => Int32.ofInt (N k i))) := by
  have e : ∀ N : pz_M, pz_cell cI cB ad N k = .inl ((if a = 22 then cB else cI), pz_len k, .inl (fun i => Int32.ofInt (N k i))) := by
    intro N
    unfold pz_cell
    rw [hk]
    by_cases h : a = 22
    · rw [if_neg (by omega), if_pos h, if_pos h]
    · rw [if_pos (by omega), if_neg h]
  obtain ⟨j, h1, h2⟩ := pz_at (sd := sd) (k := k) (by rw [hk]; exact hs)
  exact ⟨j, h1, h2, by rw [pz_ws_at h1, h2, e], e⟩
theorem pz_upd_eq {M : pz_M} {k i : Nat} {x : Int} : upd (fun j => Int32.ofInt (M k j)) i (Int32.ofInt x) = fun j => Int32.ofInt (pz_wr M k i x k j) := by
  funext j
  unfold upd pz_wr
  by_cases h : j = i
  · rw [if_pos h, if_pos ⟨rfl, h⟩]
  · rw [if_neg h, if_neg (fun z => h z.2)]
section PZA
variable {sd : Bool} {row : pz_Row} {pc a : Nat}
theorem ok_ald_of {ty : FieldType} {t0 : Nat} (ht : ∀ cI cB : ClassId, ([(cI, .int), (cB, .byte)] : List (ClassId × FieldType))[t0]? = some ((if a = 22 then cB else cI), ty))
    (h : ∀ {p : Program} {l : Launch} {e : Env} {R : Room} {s : State} {m : MethodId} {args : Array Value} {below : List Frame} {meth : Method} {c : Code} {H : Heap} {locs : List Loc} {Q : State → Prop} {ls : Array Slot} {rest : List Value} {D : va_G} {tys : List (ClassId × FieldType)} {ws : va_W} {ar q0 : Nat} {cA : ClassId} {n : Nat} {f : Nat → Int32} {i : Int32}, p.tables.exec = Jvm.exec → c.code = rw_c row → va_K D pz_CL tys s → va_P D pz_CL ws H → ws[q0]? = some (ar, .inl (cA, n, .inl f)) → tys[t0]? = some (cA, ty) → vp_in i n → W p l e R s m args below meth c H locs 0 0 Q (F0 m (pc + 1) ls (.int (f i.toNatClampNeg) :: rest)) → W p l e R s m args below meth c H locs 0 0 Q (F0 m pc ls (.int i :: .ref ar :: rest)))
    (hs : pz_sid sd a = true) (ha : 20 ≤ a ∧ a ≤ 22) : pz_OK sd row pc (op_iald a (pc + 1)) := by
  intro D cI cB ad d p l e s m args below meth cd hCx als ast M H locs ls hI
  obtain ⟨hx, hb, hml, hown, hlocks, hret, hd, hG, hinj⟩ := hCx
  obtain ⟨hL, hoA, hoS, hMi, hP, hS⟩ := hI
  unfold op_iald
  dsimp only
  match ast, hoS with
  | [], _ => exact ⟨fun _ _ _ _ hf => (by cases hf), fun _ hf => (by cases hf)⟩
  | [.inl _], _ => exact ⟨fun _ _ _ _ hf => (by cases hf), fun _ hf => (by cases hf)⟩
  | .inr _ :: _, _ => exact ⟨fun _ _ _ _ hf => (by cases hf), fun _ hf => (by cases hf)⟩
  | .inl _ :: .inl _ :: _, _ => exact ⟨fun _ _ _ _ hf => (by cases hf), fun _ hf => (by cases hf)⟩
  | .inl _ :: .inr none :: _, _ => exact ⟨fun _ _ _ _ hf => (by cases hf), fun _ hf => (by cases hf)⟩
  | .inl i :: .inr (some k) :: st, hoS =>
    dsimp only
    cases hck : Nat.beq (pz_cls k) a && (decide (0 ≤ i) && decide (i < pz_len k)) with
    | false => exact ⟨fun _ _ _ _ hf => (by cases hf), fun _ hf => (by cases hf)⟩
    | true =>
      simp only [Bool.and_eq_true, decide_eq_true_eq] at hck
      obtain ⟨hck, h0, h1⟩ := hck
      have hck := Nat.eq_of_beq_eq_true hck
      have hii : pz_in i := hoS (.inl i) List.mem_cons_self
      refine ⟨fun pc' als' ast' M' hf0 Q kk => ?_, fun _ hf => (by cases hf)⟩
      cases hf0
      obtain ⟨j, g1, g2, g3, -⟩ := pz_row_at (sd := sd) (cI := cI) (cB := cB) (ad := ad) (M := M) hck hs ha
      refine h hx hb hG.2.1 hP g3 (ht cI cB) (pz_vin hii h0 h1) ?_
      rw [pz_clamp hii]
      exact kk H locs ls ⟨hL, hoA, fun w hw => (List.mem_cons.mp hw).elim (fun q => by rw [q]; exact hMi _ _) (fun q => hoS w (List.mem_cons_of_mem _ (List.mem_cons_of_mem _ q))), hMi, hP, hS⟩
theorem ok_iald (h : decode (rw_c row) pc = .ok (.iaload, 1)) (hs : pz_sid sd a = true) (ha : 20 ≤ a ∧ a ≤ 21) : pz_OK sd row pc (op_iald a (pc + 1)) :=
  ok_ald_of (t0 := 0) (ty := .int) (fun cI cB => by rw [if_neg (by omega)]; rfl) (fun hx hb hK hP g ht hin k => va_iald hx hb hK hP _ 0 g ht hin h k) hs (by omega)
theorem ok_bald (h : decode (rw_c row) pc = .ok (.baload, 1)) (hs : pz_sid sd 22 = true) : pz_OK sd row pc (op_iald 22 (pc + 1)) :=
  ok_ald_of (t0 := 1) (ty := .byte) (fun cI cB => by rw [if_pos rfl]; rfl) (fun hx hb hK hP g ht hin k => va_bald hx hb hK hP _ 1 g ht hin h k) hs (by omega)
theorem pz_ast_row {D : va_G} {cI cB : ClassId} {ad : Nat → Nat} {s : State} {M : pz_M} {H1 : Heap} {k j i : Nat} {x : Int} (g1 : j < pz_K sd) (g2 : pz_b sd j = k) (ge : ∀ N : pz_M, pz_cell cI cB ad N k = .inl ((if a = 22 then cB else cI), pz_len k, .inl (fun i => Int32.ofInt (N k i))))
    (hP1 : va_P D pz_CL ((pz_ws sd cI cB ad M).set j (ad k, .inl ((if a = 22 then cB else cI), pz_len k, .inl (upd (fun i => Int32.ofInt (M k i)) i (Int32.ofInt x))))) H1) : va_P D pz_CL (pz_ws sd cI cB ad (pz_wr M k i x)) H1 := by
  rw [pz_upd_eq, ← ge (pz_wr M k i x)] at hP1
  have := pz_ws_set (cI := cI) (cB := cB) (ad := ad) (M := M) (M' := pz_wr M k i x) g1 (fun q hq => pz_wr_ne (by omega))
  rw [g2] at this
  rw [this] at hP1
  exact hP1
theorem ok_iast (h : decode (rw_c row) pc = .ok (.iastore, 1)) (hs : pz_sid sd a = true) (ha : 20 ≤ a ∧ a ≤ 21) : pz_OK sd row pc (op_iast a (pc + 1)) := by
  intro D cI cB ad d p l e s m args below meth cd hCx als ast M H locs ls hI
  obtain ⟨hx, hb, hml, hown, hlocks, hret, hd, hG, hinj⟩ := hCx
  obtain ⟨hL, hoA, hoS, hMi, hP, hS⟩ := hI
  unfold op_iast
  dsimp only
  match ast, hoS with
  | [], _ => exact ⟨fun _ _ _ _ hf => (by cases hf), fun _ hf => (by cases hf)⟩
  | [.inl _], _ => exact ⟨fun _ _ _ _ hf => (by cases hf), fun _ hf => (by cases hf)⟩
  | [.inl _, .inl _], _ => exact ⟨fun _ _ _ _ hf => (by cases hf), fun _ hf => (by cases hf)⟩
  | .inr _ :: _, _ => exact ⟨fun _ _ _ _ hf => (by cases hf), fun _ hf => (by cases hf)⟩
  | .inl _ :: .inr _ :: _, _ => exact ⟨fun _ _ _ _ hf => (by cases hf), fun _ hf => (by cases hf)⟩
  | .inl _ :: .inl _ :: .inl _ :: _, _ => exact ⟨fun _ _ _ _ hf => (by cases hf), fun _ hf => (by cases hf)⟩
  | .inl _ :: .inl _ :: .inr none :: _, _ => exact ⟨fun _ _ _ _ hf => (by cases hf), fun _ hf => (by cases hf)⟩
  | .inl x :: .inl i :: .inr (some k) :: st, hoS =>
    dsimp only
    cases hck : Nat.beq (pz_cls k) a && (decide (0 ≤ i) && decide (i < pz_len k)) with
    | false => exact ⟨fun _ _ _ _ hf => (by cases hf), fun _ hf => (by cases hf)⟩
    | true =>
      simp only [Bool.and_eq_true, decide_eq_true_eq] at hck
      obtain ⟨hck, h0, h1⟩ := hck
      have hck := Nat.eq_of_beq_eq_true hck
      have hxi : pz_in x := hoS (.inl x) List.mem_cons_self
      have hii : pz_in i := hoS (.inl i) (List.mem_cons_of_mem _ List.mem_cons_self)
      refine ⟨fun pc' als' ast' M' hf0 Q kk => ?_, fun _ hf => (by cases hf)⟩
      cases hf0
      obtain ⟨j, g1, g2, g3, ge⟩ := pz_row_at (sd := sd) (cI := cI) (cB := cB) (ad := ad) (M := M) hck hs (by omega)
      refine va_iast hx hb hG.2.1 hP (pz_ws_D hinj M) hS j 0 g3 (by rw [if_neg (by omega)]; rfl) (pz_vin hii h0 h1) h (fun H1 locs1 hP1 _ hS1 => ?_)
      rw [pz_clamp hii] at hP1
      exact kk H1 locs1 ls ⟨hL, hoA, fun w hw => hoS w (List.mem_cons_of_mem _ (List.mem_cons_of_mem _ (List.mem_cons_of_mem _ hw))), pz_wr_in hMi hxi, pz_ast_row (s := s) g1 g2 ge hP1, hS1⟩
theorem ok_bast (h : decode (rw_c row) pc = .ok (.bastore, 1)) (hs : pz_sid sd 22 = true) : pz_OK sd row pc (op_bast 22 (pc + 1)) := by
  intro D cI cB ad d p l e s m args below meth cd hCx als ast M H locs ls hI
  obtain ⟨hx, hb, hml, hown, hlocks, hret, hd, hG, hinj⟩ := hCx
  obtain ⟨hL, hoA, hoS, hMi, hP, hS⟩ := hI
  unfold op_bast
  dsimp only
  match ast, hoS with
  | [], _ => exact ⟨fun _ _ _ _ hf => (by cases hf), fun _ hf => (by cases hf)⟩
  | [.inl _], _ => exact ⟨fun _ _ _ _ hf => (by cases hf), fun _ hf => (by cases hf)⟩
  | [.inl _, .inl _], _ => exact ⟨fun _ _ _ _ hf => (by cases hf), fun _ hf => (by cases hf)⟩
  | .inr _ :: _, _ => exact ⟨fun _ _ _ _ hf => (by cases hf), fun _ hf => (by cases hf)⟩
  | .inl _ :: .inr _ :: _, _ => exact ⟨fun _ _ _ _ hf => (by cases hf), fun _ hf => (by cases hf)⟩
  | .inl _ :: .inl _ :: .inl _ :: _, _ => exact ⟨fun _ _ _ _ hf => (by cases hf), fun _ hf => (by cases hf)⟩
  | .inl _ :: .inl _ :: .inr none :: _, _ => exact ⟨fun _ _ _ _ hf => (by cases hf), fun _ hf => (by cases hf)⟩
  | .inl x :: .inl i :: .inr (some k) :: st, hoS =>
    dsimp only
    cases hck : Nat.beq (pz_cls k) 22 && (decide (0 ≤ i) && decide (i < pz_len k)) with
    | false => exact ⟨fun _ _ _ _ hf => (by cases hf), fun _ hf => (by cases hf)⟩
    | true =>
      simp only [Bool.and_eq_true, decide_eq_true_eq] at hck
      obtain ⟨hck, h0, h1⟩ := hck
      have hck := Nat.eq_of_beq_eq_true hck
      have hii : pz_in i := hoS (.inl i) (List.mem_cons_of_mem _ List.mem_cons_self)
      refine ⟨fun pc' als' ast' M' hf0 Q kk => ?_, fun _ hf => (by cases hf)⟩
      cases hf0
      obtain ⟨j, g1, g2, g3, ge⟩ := pz_row_at (sd := sd) (cI := cI) (cB := cB) (ad := ad) (M := M) hck hs (by omega)
      refine va_bast hx hb hG.2.1 hP (pz_ws_D hinj M) hS j 1 g3 (by rw [if_pos rfl]; rfl) (pz_vin hii h0 h1) h (fun H1 locs1 hP1 _ hS1 => ?_)
      have e : vp_nar .byte (Int32.ofInt x) = Int32.ofInt (f_i2b (pzJ x)).toInt := by
        rw [Int32.ofInt_toInt]
        rfl
      rw [pz_clamp hii, e] at hP1
      exact kk H1 locs1 ls ⟨hL, hoA, fun w hw => hoS w (List.mem_cons_of_mem _ (List.mem_cons_of_mem _ (List.mem_cons_of_mem _ hw))), pz_wr_in hMi (pz_in_toInt _), pz_ast_row (s := s) g1 g2 ge hP1, hS1⟩
theorem pz_len_in : ∀ k, pz_in (pz_len k : Int) ∧ Int32.ofNat (pz_len k) = Int32.ofInt (pz_len k : Int) := by
  intro k
  have h : pz_len k ≤ 20000 := by
    unfold pz_len
    rw [List.getD_eq_getElem?_getD]
    cases hk : pz_lenL[k]? with
    | none => exact Nat.zero_le _
    | some v =>
      have : ∀ v ∈ pz_lenL, v ≤ 20000 := by decide +kernel
      exact this v (List.mem_of_getElem? hk)
  refine ⟨?_, ?_⟩
  · unfold pz_in
    rw [Int32.toInt_ofInt_of_le] <;> omega
  · exact Int32.ofInt_eq_ofNat.symm
theorem ok_alen (h : decode (rw_c row) pc = .ok (.arraylength, 1)) (hs : pz_sid sd a = true) (ha : 20 ≤ a ∧ a ≤ 21) : pz_OK sd row pc (op_alen a (pc + 1)) := by
  intro D cI cB ad d p l e s m args below meth cd hCx als ast M H locs ls hI
  obtain ⟨hx, hb, hml, hown, hlocks, hret, hd, hG, hinj⟩ := hCx
  obtain ⟨hL, hoA, hoS, hMi, hP, hS⟩ := hI
  unfold op_alen
  dsimp only
  match ast, hoS with
  | [], _ => exact ⟨fun _ _ _ _ hf => (by cases hf), fun _ hf => (by cases hf)⟩
  | .inl _ :: _, _ => exact ⟨fun _ _ _ _ hf => (by cases hf), fun _ hf => (by cases hf)⟩
  | .inr none :: _, _ => exact ⟨fun _ _ _ _ hf => (by cases hf), fun _ hf => (by cases hf)⟩
  | .inr (some k) :: st, hoS =>
    dsimp only
    cases hck : Nat.beq (pz_cls k) a with
    | false => exact ⟨fun _ _ _ _ hf => (by cases hf), fun _ hf => (by cases hf)⟩
    | true =>
      have hck := Nat.eq_of_beq_eq_true hck
      refine ⟨fun pc' als' ast' M' hf0 Q kk => ?_, fun _ hf => (by cases hf)⟩
      cases hf0
      obtain ⟨j, g1, g2, g3, ge⟩ := pz_row_at (sd := sd) (cI := cI) (cB := cB) (ad := ad) (M := M) hck hs (by omega)
      refine va_alen hx hb hG.2.1 hP j 0 g3 (ty := .int) (by rw [if_neg (by omega)]; rfl) (pz_len_in k).2 h ?_
      exact kk H locs ls ⟨hL, hoA, fun w hw => (List.mem_cons.mp hw).elim (fun q => by rw [q]; exact (pz_len_in k).1) (fun q => hoS w (List.mem_cons_of_mem _ q)), hMi, hP, hS⟩
theorem ok_ret (h : decode (rw_c row) pc = .ok (.return_, 1)) (hr : rw_t row = none) : pz_OK sd row pc op_ret := by
  intro D cI cB ad d p l e s m args below meth cd hCx als ast M H locs ls hI
  obtain ⟨hx, hb, hml, hown, hlocks, hret, hd, hG, hinj⟩ := hCx
  obtain ⟨hL, hoA, hoS, hMi, hP, hS⟩ := hI
  unfold op_ret
  dsimp only
  match ast with
  | _ :: _ => exact ⟨fun _ _ _ _ hf => (by cases hf), fun _ hf => (by cases hf)⟩
  | [] =>
    refine ⟨fun _ _ _ _ hf => (by cases hf), fun r hf => ?_⟩
    cases hf
    rw [hr] at hret
    exact W.vret hx hb hret (fun t ht hW => ⟨rfl, by rw [ht]; exact hP, fun v hv => (by cases hv), hMi, hS.F ht⟩) hS.2.2 h
theorem ok_iret {g : Int → Bool} {ty : FieldType} (h : decode (rw_c row) pc = .ok (.ireturn, 1)) (hr : rw_t row = some ty) (hg : ∀ x, pz_in x → g x = true → narrow ty (.int (pzJ x)) = .int (pzJ x)) : pz_OK sd row pc (op_iret g) := by
  intro D cI cB ad d p l e s m args below meth cd hCx als ast M H locs ls hI
  obtain ⟨hx, hb, hml, hown, hlocks, hret, hd, hG, hinj⟩ := hCx
  obtain ⟨hL, hoA, hoS, hMi, hP, hS⟩ := hI
  unfold op_iret
  dsimp only
  match ast, hoS with
  | [], _ => exact ⟨fun _ _ _ _ hf => (by cases hf), fun _ hf => (by cases hf)⟩
  | .inr _ :: _, _ => exact ⟨fun _ _ _ _ hf => (by cases hf), fun _ hf => (by cases hf)⟩
  | .inl _ :: _ :: _, _ => exact ⟨fun _ _ _ _ hf => (by cases hf), fun _ hf => (by cases hf)⟩
  | [.inl x], hoS =>
    dsimp only
    have hxi : pz_in x := hoS (.inl x) List.mem_cons_self
    cases hgx : g x with
    | false => exact ⟨fun _ _ _ _ hf => (by cases hf), fun _ hf => (by cases hf)⟩
    | true =>
      refine ⟨fun _ _ _ _ hf => (by cases hf), fun r hf => ?_⟩
      cases hf
      rw [hr] at hret
      exact W.zret hx hb hret (hg x hxi hgx) (fun t ht hW => ⟨rfl, by rw [ht]; exact hP, fun v hv => (by cases hv; exact hxi), hMi, hS.F ht⟩) hS.2.2 h
theorem pz_g_int : ∀ x, pz_in x → g_int x = true → narrow .int (.int (pzJ x)) = .int (pzJ x) := fun _ _ _ => rfl
theorem pz_g_bool : ∀ x, pz_in x → g_bool x = true → narrow .boolean (.int (pzJ x)) = .int (pzJ x) := by
  intro x _ h
  unfold g_bool at h
  simp at h
  rcases h with rfl | rfl <;> decide
theorem pz_g_byte : ∀ x, pz_in x → g_byte x = true → narrow .byte (.int (pzJ x)) = .int (pzJ x) := by
  intro x hx h
  unfold g_byte at h
  simp at h
  show Value.int (pzJ x).toInt8.toInt32 = _
  congr 1
  apply Int32.toInt_inj.mp
  rw [Int8.toInt_toInt32, Int32.toInt_toInt8, hx]
  rw [Int.bmod_eq_of_le] <;> omega
end PZA
