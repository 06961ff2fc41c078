/-! ===== steps: branches, switches, fields, rows, ends ===== -/
theorem pz_J_eq {x y : Int} (hx : pz_in x) (hy : pz_in y) : pzJ x = pzJ y ↔ x = y := ⟨fun h => by rw [← hx, ← hy]; exact congrArg Int32.toInt h, fun h => by rw [h]⟩
theorem pz_J_lt {x y : Int} (hx : pz_in x) (hy : pz_in y) : pzJ x < pzJ y ↔ x < y := by rw [Int32.lt_iff_toInt_lt, hx, hy]
theorem pz_J_le {x y : Int} (hx : pz_in x) (hy : pz_in y) : pzJ x ≤ pzJ y ↔ x ≤ y := by rw [Int32.le_iff_toInt_le, hx, hy]
theorem pz_in_0 : pz_in 0 := by unfold pz_in; decide
theorem pz_J_0 : pzJ 0 = 0 := by decide
def c_eq (x y : Int) : Bool := decide (x = y)
def c_ne (x y : Int) : Bool := decide (x ≠ y)
def c_lt (x y : Int) : Bool := decide (x < y)
def c_ge (x y : Int) : Bool := decide (y ≤ x)
def c_gt (x y : Int) : Bool := decide (y < x)
def c_le (x y : Int) : Bool := decide (x ≤ y)
def op_goto (t : Nat) : pz_F := fun σ => some (.inl (t, σ.2.1, σ.2.2.1, σ.2.2.2))
def op_icmp (c : Int → Int → Bool) (t nx : Nat) : pz_F := fun σ => match σ.2.2.1 with
  | .inl y :: .inl x :: st => some (.inl (bif c x y then t else nx, σ.2.1, st, σ.2.2.2))
  | _ => none
def op_ifz (c : Int → Int → Bool) (t nx : Nat) : pz_F := fun σ => match σ.2.2.1 with
  | .inl x :: st => some (.inl (bif c x 0 then t else nx, σ.2.1, st, σ.2.2.2))
  | _ => none
def pz_sel : List (Int × Nat) → Nat → Int → Nat
  | [], d, _ => d
  | q :: r, d, x => if x = q.1 then q.2 else pz_sel r d x
def op_sw (l : List (Int × Nat)) (d : Nat) : pz_F := fun σ => match σ.2.2.1 with
  | .inl x :: st => some (.inl (pz_sel l d x, σ.2.1, st, σ.2.2.2))
  | _ => none
section PZB
variable {sd : Bool} {row : pz_Row} {pc t : Nat}
theorem ok_goto {off : Int} (h : decode (rw_c row) pc = .ok (.goto off, 3)) (ht : (pc : Int) + off = (t : Int)) : pz_OK sd row pc (op_goto t) := by
  intro D cI cB ad d p l e s m args below meth c hC als ast M H locs ls hI
  refine ⟨fun pc' als' ast' M' hf Q kk => ?_, fun _ hf => (by cases hf)⟩
  cases hf
  exact lv_goto hC.1 hC.2.1 h ht (kk H locs ls hI)
theorem ok_icmp_of {c0 : Int → Int → Bool} {nx : Nat} {P : Int32 → Int32 → Prop} (hP0 : ∀ x y, pz_in x → pz_in y → (P (pzJ x) (pzJ y) ↔ c0 x y = true))
    (h : ∀ (p : Program) (l : Launch) (e : Env) (R : Room) (s : State) (m : MethodId) (args : Array Value) (below : List Frame) (meth : Method) (c : Code) (H : Heap) (locs : List Loc) (Q : State → Prop) (ls : Array Slot) (rest : List Value) (x y : Int32), p.tables.exec = Jvm.exec → c.code = rw_c row → (P x y → W p l e R s m args below meth c H locs 0 0 Q (F0 m t ls rest)) → (¬ P x y → W p l e R s m args below meth c H locs 0 0 Q (F0 m nx ls rest)) → W p l e R s m args below meth c H locs 0 0 Q (F0 m pc ls (.int y :: .int x :: rest))) : pz_OK sd row pc (op_icmp c0 t nx) := by
  intro D cI cB ad d p l e s m args below meth c hC als ast M H locs ls hI
  obtain ⟨hx, hb, hml, hown, hlocks, hret, hd, hG, hinj⟩ := hC
  obtain ⟨hL, hoA, hoS, hMi, hP, hS⟩ := hI
  unfold op_icmp
  dsimp only
  match ast, hoS with
  | [], _ => exact ⟨fun _ _ _ _ hf => (by cases hf), fun _ hf => (by cases hf)⟩
  | [.inl _], _ => exact ⟨fun _ _ _ _ hf => (by cases hf), fun _ hf => (by cases hf)⟩
  | .inr _ :: _, _ => exact ⟨fun _ _ _ _ hf => (by cases hf), fun _ hf => (by cases hf)⟩
  | .inl _ :: .inr _ :: _, _ => exact ⟨fun _ _ _ _ hf => (by cases hf), fun _ hf => (by cases hf)⟩
  | .inl y :: .inl x :: st, hoS =>
    refine ⟨fun pc' als' ast' M' hf Q kk => ?_, fun _ hf => (by cases hf)⟩
    have hy : pz_in y := hoS (.inl y) List.mem_cons_self
    have hxi : pz_in x := hoS (.inl x) (List.mem_cons_of_mem _ List.mem_cons_self)
    cases hf
    have kk := kk H locs ls ⟨hL, hoA, fun w hw => hoS w (List.mem_cons_of_mem _ (List.mem_cons_of_mem _ hw)), hMi, hP, hS⟩
    refine h p l e _ s m args below meth c H locs Q ls _ _ _ hx hb (fun hp => ?_) (fun hp => ?_)
    · rw [(hP0 x y hxi hy).mp hp] at kk
      exact kk
    · have : c0 x y = false := by
        cases hc : c0 x y with
        | false => rfl
        | true => exact absurd ((hP0 x y hxi hy).mpr hc) hp
      rw [this] at kk
      exact kk
theorem ok_ifz_of {c0 : Int → Int → Bool} {nx : Nat} {P : Int32 → Prop} (hP0 : ∀ x, pz_in x → (P (pzJ x) ↔ c0 x 0 = true))
    (h : ∀ (p : Program) (l : Launch) (e : Env) (R : Room) (s : State) (m : MethodId) (args : Array Value) (below : List Frame) (meth : Method) (c : Code) (H : Heap) (locs : List Loc) (Q : State → Prop) (ls : Array Slot) (rest : List Value) (x : Int32), p.tables.exec = Jvm.exec → c.code = rw_c row → (P x → W p l e R s m args below meth c H locs 0 0 Q (F0 m t ls rest)) → (¬ P x → W p l e R s m args below meth c H locs 0 0 Q (F0 m nx ls rest)) → W p l e R s m args below meth c H locs 0 0 Q (F0 m pc ls (.int x :: rest))) : pz_OK sd row pc (op_ifz c0 t nx) := by
  intro D cI cB ad d p l e s m args below meth c hC als ast M H locs ls hI
  obtain ⟨hx, hb, hml, hown, hlocks, hret, hd, hG, hinj⟩ := hC
  obtain ⟨hL, hoA, hoS, hMi, hP, hS⟩ := hI
  unfold op_ifz
  dsimp only
  match ast, hoS with
  | [], _ => exact ⟨fun _ _ _ _ hf => (by cases hf), fun _ hf => (by cases hf)⟩
  | .inr _ :: _, _ => exact ⟨fun _ _ _ _ hf => (by cases hf), fun _ hf => (by cases hf)⟩
  | .inl x :: st, hoS =>
    refine ⟨fun pc' als' ast' M' hf Q kk => ?_, fun _ hf => (by cases hf)⟩
    have hxi : pz_in x := hoS (.inl x) List.mem_cons_self
    cases hf
    have kk := kk H locs ls ⟨hL, hoA, fun w hw => hoS w (List.mem_cons_of_mem _ hw), hMi, hP, hS⟩
    refine h p l e _ s m args below meth c H locs Q ls _ _ hx hb (fun hp => ?_) (fun hp => ?_)
    · rw [(hP0 x hxi).mp hp] at kk
      exact kk
    · have : c0 x 0 = false := by
        cases hc : c0 x 0 with
        | false => rfl
        | true => exact absurd ((hP0 x hxi).mpr hc) hp
      rw [this] at kk
      exact kk
variable {off : Int}
theorem ok_icmp_eq (h : decode (rw_c row) pc = .ok (.if_icmp .eq off, 3)) (ht : (pc : Int) + off = (t : Int)) : pz_OK sd row pc (op_icmp c_eq t (pc + 3)) := ok_icmp_of (P := fun x y => x = y) (fun x y hx hy => by rw [pz_J_eq hx hy]; simp [c_eq]) fun _ _ _ _ _ _ _ _ _ _ _ _ _ _ _ _ _ hx hb kt kf => lv_icmp_eq hx hb h ht kt kf
theorem ok_icmp_ne (h : decode (rw_c row) pc = .ok (.if_icmp .ne off, 3)) (ht : (pc : Int) + off = (t : Int)) : pz_OK sd row pc (op_icmp c_ne t (pc + 3)) := ok_icmp_of (P := fun x y => x ≠ y) (fun x y hx hy => by rw [ne_eq, pz_J_eq hx hy]; simp [c_ne]) fun _ _ _ _ _ _ _ _ _ _ _ _ _ _ _ _ _ hx hb kt kf => lv_icmp_ne hx hb h ht kt (fun q => kf (fun z => z q))
theorem ok_icmp_lt (h : decode (rw_c row) pc = .ok (.if_icmp .lt off, 3)) (ht : (pc : Int) + off = (t : Int)) : pz_OK sd row pc (op_icmp c_lt t (pc + 3)) := ok_icmp_of (P := fun x y => x < y) (fun x y hx hy => by rw [pz_J_lt hx hy]; simp [c_lt]) fun _ _ _ _ _ _ _ _ _ _ _ _ _ _ _ _ _ hx hb kt kf => lv_icmp_lt hx hb h ht kt kf
theorem ok_icmp_ge (h : decode (rw_c row) pc = .ok (.if_icmp .ge off, 3)) (ht : (pc : Int) + off = (t : Int)) : pz_OK sd row pc (op_icmp c_ge t (pc + 3)) := ok_icmp_of (P := fun x y => y ≤ x) (fun x y hx hy => by rw [pz_J_le hy hx]; simp [c_ge]) fun _ _ _ _ _ _ _ _ _ _ _ _ _ _ _ _ _ hx hb kt kf => lv_icmp_ge hx hb h ht kt kf
theorem ok_icmp_gt (h : decode (rw_c row) pc = .ok (.if_icmp .gt off, 3)) (ht : (pc : Int) + off = (t : Int)) : pz_OK sd row pc (op_icmp c_gt t (pc + 3)) := ok_icmp_of (P := fun x y => y < x) (fun x y hx hy => by rw [pz_J_lt hy hx]; simp [c_gt]) fun _ _ _ _ _ _ _ _ _ _ _ _ _ _ _ _ _ hx hb kt kf => lv_icmp_gt hx hb h ht kt kf
theorem ok_icmp_le (h : decode (rw_c row) pc = .ok (.if_icmp .le off, 3)) (ht : (pc : Int) + off = (t : Int)) : pz_OK sd row pc (op_icmp c_le t (pc + 3)) := ok_icmp_of (P := fun x y => x ≤ y) (fun x y hx hy => by rw [pz_J_le hx hy]; simp [c_le]) fun _ _ _ _ _ _ _ _ _ _ _ _ _ _ _ _ _ hx hb kt kf => lv_icmp_le hx hb h ht kt kf
theorem ok_if_eq (h : decode (rw_c row) pc = .ok (.ifCond .eq off, 3)) (ht : (pc : Int) + off = (t : Int)) : pz_OK sd row pc (op_ifz c_eq t (pc + 3)) := ok_ifz_of (P := fun x => x = 0) (fun x hx => by rw [← pz_J_0, pz_J_eq hx pz_in_0]; simp [c_eq]) fun _ _ _ _ _ _ _ _ _ _ _ _ _ _ _ _ hx hb kt kf => lv_if_eq hx hb h ht kt kf
theorem ok_if_ne (h : decode (rw_c row) pc = .ok (.ifCond .ne off, 3)) (ht : (pc : Int) + off = (t : Int)) : pz_OK sd row pc (op_ifz c_ne t (pc + 3)) := ok_ifz_of (P := fun x => x ≠ 0) (fun x hx => by rw [ne_eq, ← pz_J_0, pz_J_eq hx pz_in_0]; simp [c_ne]) fun _ _ _ _ _ _ _ _ _ _ _ _ _ _ _ _ hx hb kt kf => lv_if_ne hx hb h ht kt (fun q => kf (fun z => z q))
theorem ok_if_lt (h : decode (rw_c row) pc = .ok (.ifCond .lt off, 3)) (ht : (pc : Int) + off = (t : Int)) : pz_OK sd row pc (op_ifz c_lt t (pc + 3)) := ok_ifz_of (P := fun x => x < 0) (fun x hx => by rw [← pz_J_0, pz_J_lt hx pz_in_0]; simp [c_lt]) fun _ _ _ _ _ _ _ _ _ _ _ _ _ _ _ _ hx hb kt kf => lv_if_lt hx hb h ht kt kf
theorem ok_if_ge (h : decode (rw_c row) pc = .ok (.ifCond .ge off, 3)) (ht : (pc : Int) + off = (t : Int)) : pz_OK sd row pc (op_ifz c_ge t (pc + 3)) := ok_ifz_of (P := fun x => 0 ≤ x) (fun x hx => by rw [← pz_J_0, pz_J_le pz_in_0 hx]; simp [c_ge]) fun _ _ _ _ _ _ _ _ _ _ _ _ _ _ _ _ hx hb kt kf => lv_if_ge hx hb h ht kt kf
theorem ok_if_gt (h : decode (rw_c row) pc = .ok (.ifCond .gt off, 3)) (ht : (pc : Int) + off = (t : Int)) : pz_OK sd row pc (op_ifz c_gt t (pc + 3)) := ok_ifz_of (P := fun x => 0 < x) (fun x hx => by rw [← pz_J_0, pz_J_lt pz_in_0 hx]; simp [c_gt]) fun _ _ _ _ _ _ _ _ _ _ _ _ _ _ _ _ hx hb kt kf => lv_if_gt hx hb h ht kt kf
theorem ok_if_le (h : decode (rw_c row) pc = .ok (.ifCond .le off, 3)) (ht : (pc : Int) + off = (t : Int)) : pz_OK sd row pc (op_ifz c_le t (pc + 3)) := ok_ifz_of (P := fun x => x ≤ 0) (fun x hx => by rw [← pz_J_0, pz_J_le hx pz_in_0]; simp [c_le]) fun _ _ _ _ _ _ _ _ _ _ _ _ _ _ _ _ hx hb kt kf => lv_if_le hx hb h ht kt kf
theorem ok_sw_of {l0 : List (Int × Nat)} {d0 : Nat}
    (h : ∀ (p : Program) (l : Launch) (e : Env) (R : Room) (s : State) (m : MethodId) (args : Array Value) (below : List Frame) (meth : Method) (c : Code) (H : Heap) (locs : List Loc) (Q : State → Prop) (ls : Array Slot) (rest : List Value) (x : Int), pz_in x → p.tables.exec = Jvm.exec → c.code = rw_c row → W p l e R s m args below meth c H locs 0 0 Q (F0 m (pz_sel l0 d0 x) ls rest) → W p l e R s m args below meth c H locs 0 0 Q (F0 m pc ls (.int (pzJ x) :: rest))) : pz_OK sd row pc (op_sw l0 d0) := by
  intro D cI cB ad d p l e s m args below meth c hC als ast M H locs ls hI
  obtain ⟨hx, hb, hml, hown, hlocks, hret, hd, hG, hinj⟩ := hC
  obtain ⟨hL, hoA, hoS, hMi, hP, hS⟩ := hI
  unfold op_sw
  dsimp only
  match ast, hoS with
  | [], _ => exact ⟨fun _ _ _ _ hf => (by cases hf), fun _ hf => (by cases hf)⟩
  | .inr _ :: _, _ => exact ⟨fun _ _ _ _ hf => (by cases hf), fun _ hf => (by cases hf)⟩
  | .inl x :: st, hoS =>
    refine ⟨fun pc' als' ast' M' hf Q kk => ?_, fun _ hf => (by cases hf)⟩
    have hxi : pz_in x := hoS (.inl x) List.mem_cons_self
    cases hf
    exact h p l e _ s m args below meth c H locs Q ls _ x hxi hx hb (kk H locs ls ⟨hL, hoA, fun w hw => hoS w (List.mem_cons_of_mem _ hw), hMi, hP, hS⟩)
/-- the pairs of a table: from lo on, one by one -/
def pz_tw (pc : Nat) : Int → List Int → List (Int × Nat)
  | _, [] => []
  | lo, o :: r => (lo, ((pc : Int) + o).toNat) :: pz_tw pc (lo + 1) r
theorem pz_tw_in {pc d0 : Nat} : ∀ (os : List Int) (lo x : Int), lo ≤ x → x < lo + os.length → ∃ o, os[(x - lo).toNat]? = some o ∧ pz_sel (pz_tw pc lo os) d0 x = ((pc : Int) + o).toNat := by
  intro os
  induction os with
  | nil => intro lo x h1 h2; simp at h2; omega
  | cons o r ih =>
    intro lo x h1 h2
    by_cases hx : x = lo
    · subst hx
      exact ⟨o, by simp, by simp [pz_tw, pz_sel]⟩
    · obtain ⟨o', h3, h4⟩ := ih (lo + 1) x (by omega) (by rw [List.length_cons] at h2; omega)
      refine ⟨o', ?_, ?_⟩
      · rw [show (x - lo).toNat = (x - (lo + 1)).toNat + 1 by omega, List.getElem?_cons_succ]
        exact h3
      · simp only [pz_tw, pz_sel, if_neg hx]
        exact h4
theorem pz_tw_out {pc d0 : Nat} : ∀ (os : List Int) (lo x : Int), (x < lo ∨ lo + os.length ≤ x) → pz_sel (pz_tw pc lo os) d0 x = d0 := by
  intro os
  induction os with
  | nil => intro lo x _; rfl
  | cons o r ih =>
    intro lo x h
    have h0 := List.length_cons (a := o) (as := r)
    simp only [pz_tw, pz_sel]
    rw [if_neg (by omega)]
    exact ih (lo + 1) x (by omega)
theorem ok_table {dflt lo hi : Int} {offs : Array Int} {len d0 : Nat} {l0 : List (Int × Nat)} (h : decode (rw_c row) pc = .ok (.tableswitch dflt lo hi offs, len)) (hl : pz_tw pc lo offs.toList = l0) (hd0 : (pc : Int) + dflt = (d0 : Int)) (hn : hi = lo + offs.toList.length - 1) (hp : offs.toList.all (fun o => decide (0 ≤ (pc : Int) + o)) = true) : pz_OK sd row pc (op_sw l0 d0) := by
  refine ok_sw_of fun p l e R s m args below meth c H locs Q ls rest x hxi hx hb k => ?_
  subst hl
  have he : (pzJ x).toInt = x := hxi
  by_cases hin : lo ≤ x ∧ x < lo + offs.toList.length
  · obtain ⟨o, h1, h2⟩ := pz_tw_in (pc := pc) (d0 := d0) offs.toList lo x hin.1 hin.2
    rw [h2] at k
    have h3 := List.all_eq_true.mp hp o (List.mem_of_getElem? h1)
    have h3 : 0 ≤ (pc : Int) + o := by simpa using h3
    refine lv_tableIn hx hb h (off := o) (by rw [he]; omega) (by rw [he]; omega) ?_ (tgt := ((pc : Int) + o).toNat) (by omega) k
    rw [he, ← Array.getElem?_toList]
    exact h1
  · rw [pz_tw_out offs.toList lo x (by omega)] at k
    exact lv_tableOut hx hb h (by rw [he]; omega) hd0 k
/-- the pairs of a lookup -/
theorem pz_lk {pc d0 : Nat} {dflt : Int} (hd0 : (pc : Int) + dflt = (d0 : Int)) : ∀ (ps : List (Int × Int)) (l0 : List (Int × Nat)), ps.map (fun q => (q.1, (pc : Int) + q.2)) = l0.map (fun q => (q.1, (q.2 : Int))) → ∀ x : Int, (pc : Int) + Op.lookupswitch.offset ps dflt x = (pz_sel l0 d0 x : Int) := by
  intro ps
  induction ps with
  | nil =>
    intro l0 hm x
    cases l0 with
    | nil => exact hd0
    | cons q r => simp at hm
  | cons q r ih =>
    intro l0 hm x
    cases l0 with
    | nil => simp at hm
    | cons q0 r0 =>
      simp only [List.map_cons, List.cons.injEq, Prod.mk.injEq] at hm
      obtain ⟨⟨e1, e2⟩, e3⟩ := hm
      obtain ⟨a, o⟩ := q
      rw [Op.lookupswitch.offset_cons]
      simp only [pz_sel]
      by_cases hx : x = q0.1
      · rw [if_pos hx, if_pos (by rw [hx]; exact e1)]
        exact e2
      · rw [if_neg hx, if_neg (fun z => hx (by rw [← z]; exact e1))]
        exact ih r0 e3 x
theorem ok_lookup {dflt : Int} {ps : Array (Int × Int)} {len d0 : Nat} {l0 : List (Int × Nat)} (h : decode (rw_c row) pc = .ok (.lookupswitch dflt ps, len)) (hs : (ps.toList.zip (ps.toList.drop 1)).all (fun (a, next) => a.1 < next.1) = true) (hd0 : (pc : Int) + dflt = (d0 : Int)) (hl : ps.toList.map (fun q => (q.1, (pc : Int) + q.2)) = l0.map (fun q => (q.1, (q.2 : Int)))) : pz_OK sd row pc (op_sw l0 d0) := by
  refine ok_sw_of fun p l e R s m args below meth c H locs Q ls rest x hxi hx hb k => ?_
  have he : (pzJ x).toInt = x := hxi
  exact lv_lookup hx hb h hs rfl (by rw [he]; exact pz_lk hd0 _ _ hl x) k
end PZB
/-! fields -/
def op_getI (c f nx : Nat) : pz_F := fun σ => match σ.2.2.1 with
  | .inr (some k) :: st => bif Nat.beq (pz_cls k) c then some (.inl (nx, σ.2.1, pzI (σ.2.2.2 k f) :: st, σ.2.2.2)) else none
  | _ => none
def op_getR (c f nx : Nat) : pz_F := fun σ => match σ.2.2.1 with
  | .inr (some k) :: st => bif Nat.beq (pz_cls k) c then some (.inl (nx, σ.2.1, pzR (pz_ref k f) :: st, σ.2.2.2)) else none
  | _ => none
def op_getM (c f nx : Nat) : pz_F := fun σ => match σ.2.2.1 with
  | .inr (some k) :: st => bif Nat.beq (pz_cls k) c then some (.inl (nx, σ.2.1, pzR (σ.2.2.2 k f).toNat :: st, σ.2.2.2)) else none
  | _ => none
/-- z: the field is a boolean -/
def op_putI (z : Bool) (c f nx : Nat) : pz_F := fun σ => match σ.2.2.1 with
  | .inl x :: .inr (some k) :: st => bif Nat.beq (pz_cls k) c && (!z || (decide (x = 0) || decide (x = 1))) then some (.inl (nx, σ.2.1, st, pz_wr σ.2.2.2 k f x)) else none
  | _ => none
def op_putM (c f nx : Nat) : pz_F := fun σ => match σ.2.2.1 with
  | .inr (some t) :: .inr (some k) :: st => bif Nat.beq (pz_cls k) c && Nat.ble t 200 then some (.inl (nx, σ.2.1, st, pz_wr σ.2.2.2 k f t)) else none
  | _ => none
def pz_flnk (own : String) (idx : Nat) (r n d : String) : Prop := Cond.fieldLink own idx r n d ∈ lw_tbl ∨ ∃ host, Cond.fieldLinkNest own idx r n d host ∈ lw_tbl
def pz_clsOK (c : Nat) (C : String) (T : u_T) (N : Nat) : Prop := pz_CL[c]? = some (C, T, N) ∧ c < 12 ∧ (∀ w ∈ u_ws C T N, w ∈ lw_tbl ∧ pz_good w = true) ∧ (∃ ty : Nat → FieldType, ∀ k, k < N → parseFieldDescriptor (T k).2.2.1 = some (ty k)) ∧ (∀ a, a < N → ∀ b, b < N → a ≠ b → (T a).2.1 ≠ (T b).2.1) ∧ (pz_fks.getD c []).length = N
theorem pz_obj_at {sd : Bool} {cI cB : ClassId} {ad : Nat → Nat} {M : pz_M} {k : Nat} (hs : pz_sid sd (pz_cls k) = true) (hc : pz_cls k < 12) : ∃ j, j < pz_K sd ∧ pz_b sd j = k ∧ (pz_ws sd cI cB ad M)[j]? = some (ad k, .inr (pz_cls k, (pz_fks.getD (pz_cls k) []).mapIdx (fun j fk => pz_fv ad M k j fk))) := by
  obtain ⟨j, h1, h2⟩ := pz_at hs
  refine ⟨j, h1, h2, ?_⟩
  rw [pz_ws_at h1, h2]
  unfold pz_cell
  rw [if_neg (by omega), if_neg (by omega)]
theorem pz_fs_set {ad : Nat → Nat} {M : pz_M} {k f fk c : Nat} {x : Int} {v : Value} (hk : (pz_fks.getD c [])[f]? = some fk) (hv : pz_fv ad (pz_wr M k f x) k f fk = v) : ((pz_fks.getD c []).mapIdx (fun j fk => pz_fv ad M k j fk)).set f v = (pz_fks.getD c []).mapIdx (fun j fk => pz_fv ad (pz_wr M k f x) k j fk) := by
  apply List.ext_getElem?
  intro i
  rw [List.getElem?_mapIdx]
  by_cases hi : i = f
  · subst hi
    rw [List.getElem?_set_self (by rw [List.length_mapIdx]; exact (List.getElem?_eq_some_iff.mp hk).1), hk, ← hv]
    rfl
  · rw [List.getElem?_set_ne (Ne.symm hi), List.getElem?_mapIdx]
    have : ∀ q, pz_fv ad (pz_wr M k f x) k i q = pz_fv ad M k i q := by
      intro q
      have e : pz_wr M k f x k i = M k i := by
        unfold pz_wr
        rw [if_neg (fun z => hi z.2)]
      unfold pz_fv
      rw [e]
    cases (pz_fks.getD c [])[i]? with
    | none => rfl
    | some q => simp only [Option.map_some, this]
section PZF
variable {sd : Bool} {row : pz_Row} {pc c f idx N : Nat} {C : String} {T : u_T}
theorem ok_get_of {fk : Nat} {op : pz_F} {g : pz_M → Nat → pz_V} (hop : ∀ σ : pz_S, op σ = match σ.2.2.1 with
    | .inr (some k) :: st => bif Nat.beq (pz_cls k) c then some (.inl (pc + 3, σ.2.1, g σ.2.2.2 k :: st, σ.2.2.2)) else none
    | _ => none) (hg : ∀ ad M k, pz_v ad (g M k) = pz_fv ad M k f fk) (hgo : ∀ M k, (∀ c i, pz_in (M c i)) → pz_ok (g M k))
    (hC : pz_clsOK c C T N) (hf : f < N) (hk : (pz_fks.getD c [])[f]? = some fk) (hs : pz_sid sd c = true) (hl : pz_flnk (rw_y row).cls idx (T f).1 (T f).2.1 (T f).2.2.1) (h : decode (rw_c row) pc = .ok (.getfield idx, 3)) : pz_OK sd row pc op := by
  intro D cI cB ad d p l e s m args below meth cd hCx als ast M H locs ls hI
  obtain ⟨hx, hb, hml, hown, hlocks, hret, hd, hG, hinj⟩ := hCx
  obtain ⟨hL, hoA, hoS, hMi, hP, hS⟩ := hI
  obtain ⟨k1, k2, k3, -, -, -⟩ := hC
  rw [hop]
  dsimp only
  match ast, hoS with
  | [], _ => exact ⟨fun _ _ _ _ hf => (by cases hf), fun _ hf => (by cases hf)⟩
  | .inl _ :: _, _ => exact ⟨fun _ _ _ _ hf => (by cases hf), fun _ hf => (by cases hf)⟩
  | .inr none :: _, _ => exact ⟨fun _ _ _ _ hf => (by cases hf), fun _ hf => (by cases hf)⟩
  | .inr (some k) :: st, hoS =>
    dsimp only
    cases hck : Nat.beq (pz_cls k) c with
    | false => exact ⟨fun _ _ _ _ hf => (by cases hf), fun _ hf => (by cases hf)⟩
    | true =>
      have hck := Nat.eq_of_beq_eq_true hck
      refine ⟨fun pc' als' ast' M' hf0 Q kk => ?_, fun _ hf => (by cases hf)⟩
      cases hf0
      obtain ⟨j, h1, h2, h3⟩ := pz_obj_at (cI := cI) (cB := cB) (ad := ad) (M := M) (k := k) (sd := sd) (by rw [hck]; exact hs) (by omega)
      rw [hck] at h3
      have hv : ((pz_fks.getD c []).mapIdx (fun j fk => pz_fv ad M k j fk))[f]? = some (pz_v ad (g M k)) := by
        rw [List.getElem?_mapIdx, hk, hg]
        rfl
      have kk := kk H locs ls ⟨hL, hoA, fun w hw => (List.mem_cons.mp hw).elim (fun q => by rw [q]; exact hgo M k hMi) (fun q => hoS w (List.mem_cons_of_mem _ q)), hMi, hP, hS⟩
      have hts : ∀ w ∈ u_ws C T N, w.before args s = true := fun w hw => pz_use hG.1 (k3 w hw).1 (k3 w hw).2 args
      rcases hl with hl | ⟨host, hl⟩
      · exact va_get (D := D) (ci := c) (C := C) (T := T) (N := N) hx hb hts (fun _ q => q) hown hG.2.1 hP j h3 k1 f hf (pz_use hG.1 hl rfl args) (fun _ q => q) hv h kk
      · exact va_getN (D := D) (ci := c) (C := C) (T := T) (N := N) hx hb hts (fun _ q => q) hown hG.2.1 hP j h3 k1 f hf (pz_use hG.1 hl rfl args) (fun _ q => q) hv h kk
theorem ok_getI (hC : pz_clsOK c C T N) (hf : f < N) (hk : (pz_fks.getD c [])[f]? = some 0) (hs : pz_sid sd c = true) (hl : pz_flnk (rw_y row).cls idx (T f).1 (T f).2.1 (T f).2.2.1) (h : decode (rw_c row) pc = .ok (.getfield idx, 3)) : pz_OK sd row pc (op_getI c f (pc + 3)) :=
  ok_get_of (g := fun M k => pzI (M k f)) (fun _ => rfl) (fun _ _ _ => rfl) (fun M k h => h k f) hC hf hk hs hl h
theorem ok_getR (hC : pz_clsOK c C T N) (hf : f < N) (hk : (pz_fks.getD c [])[f]? = some 1) (hs : pz_sid sd c = true) (hl : pz_flnk (rw_y row).cls idx (T f).1 (T f).2.1 (T f).2.2.1) (h : decode (rw_c row) pc = .ok (.getfield idx, 3)) : pz_OK sd row pc (op_getR c f (pc + 3)) :=
  ok_get_of (g := fun _ k => pzR (pz_ref k f)) (fun _ => rfl) (fun _ _ _ => rfl) (fun _ _ _ => trivial) hC hf hk hs hl h
theorem ok_getM (hC : pz_clsOK c C T N) (hf : f < N) (hk : (pz_fks.getD c [])[f]? = some 2) (hs : pz_sid sd c = true) (hl : pz_flnk (rw_y row).cls idx (T f).1 (T f).2.1 (T f).2.2.1) (h : decode (rw_c row) pc = .ok (.getfield idx, 3)) : pz_OK sd row pc (op_getM c f (pc + 3)) :=
  ok_get_of (g := fun M k => pzR (M k f).toNat) (fun _ => rfl) (fun _ _ _ => rfl) (fun _ _ _ => trivial) hC hf hk hs hl h
/-- a value goes into a field -/
theorem pz_put_row {fk : Nat} {ty : FieldType} {D : va_G} {cI cB : ClassId} {ad : Nat → Nat} {d : Nat} {p : Program} {l : Launch} {e : Env} {s : State} {m : MethodId} {args : Array Value} {below : List Frame} {meth : Method} {cd : Code} {M : pz_M} {H : Heap} {locs : List Loc} {ls : Array Slot} {rest : List Value} {k : Nat} {v : pz_V} {x : Int} {Q : State → Prop}
    (hCx : pz_C sd D cI cB ad row d p s m meth cd) (hP : va_P D pz_CL (pz_ws sd cI cB ad M) H) (hS : va_S (pz_Ar sd ad) s.heap H locs)
    (hC : pz_clsOK c C T N) (hf : f < N) (hk : (pz_fks.getD c [])[f]? = some fk) (hs : pz_sid sd c = true) (hl : pz_flnk (rw_y row).cls idx (T f).1 (T f).2.1 (T f).2.2.1) (hfin : (T f).2.2.2 = false) (hty : parseFieldDescriptor (T f).2.2.1 = some ty) (hck : pz_cls k = c) (hn : narrow ty (pz_v ad v) = pz_v ad v) (hfit : fits ty (pz_v ad v) = true) (hv : pz_fv ad (pz_wr M k f x) k f fk = pz_v ad v) (h : decode (rw_c row) pc = .ok (.putfield idx, 3))
    (kk : ∀ (H1 : Heap) (locs1 : List Loc), va_P D pz_CL (pz_ws sd cI cB ad (pz_wr M k f x)) H1 → va_S (pz_Ar sd ad) s.heap H1 locs1 → W p l e (pz_rm d) s m args below meth cd H1 locs1 0 0 Q (F0 m (pc + 3) ls rest)) : W p l e (pz_rm d) s m args below meth cd H locs 0 0 Q (F0 m pc ls (pz_v ad v :: .ref (ad k) :: rest)) := by
  obtain ⟨hx, hb, hml, hown, hlocks, hret, hd, hG, hinj⟩ := hCx
  obtain ⟨k1, k2, k3, ⟨ty0, k4⟩, k5, k6⟩ := hC
  obtain ⟨j, h1, h2, h3⟩ := pz_obj_at (cI := cI) (cB := cB) (ad := ad) (M := M) (k := k) (sd := sd) (by rw [hck]; exact hs) (by omega)
  rw [hck] at h3
  have hts : ∀ w ∈ u_ws C T N, w.before args s = true := fun w hw => pz_use hG.1 (k3 w hw).1 (k3 w hw).2 args
  have hlen : f < ((pz_fks.getD c []).mapIdx (fun j fk => pz_fv ad M k j fk)).length := by rw [List.length_mapIdx, k6]; exact hf
  have go : ∀ (H1 : Heap) (locs1 : List Loc), va_P D pz_CL ((pz_ws sd cI cB ad M).set j (ad k, .inr (c, ((pz_fks.getD c []).mapIdx (fun j fk => pz_fv ad M k j fk)).set f (pz_v ad v)))) H1 → va_D (pz_Ar sd ad) ((pz_ws sd cI cB ad M).set j (ad k, .inr (c, ((pz_fks.getD c []).mapIdx (fun j fk => pz_fv ad M k j fk)).set f (pz_v ad v)))) → va_S (pz_Ar sd ad) s.heap H1 locs1 → W p l e (pz_rm d) s m args below meth cd H1 locs1 0 0 Q (F0 m (pc + 3) ls rest) := by
    intro H1 locs1 hP1 _ hS1
    refine kk H1 locs1 ?_ hS1
    rw [pz_fs_set hk hv] at hP1
    have e : pz_cell cI cB ad (pz_wr M k f x) k = .inr (c, (pz_fks.getD c []).mapIdx (fun j fk => pz_fv ad (pz_wr M k f x) k j fk)) := by
      unfold pz_cell
      rw [hck, if_neg (by omega), if_neg (by omega)]
    rw [← e] at hP1
    have := pz_ws_set (cI := cI) (cB := cB) (ad := ad) (M := M) (M' := pz_wr M k f x) h1 (fun q hq => pz_wr_ne (by omega))
    rw [h2] at this
    rw [this] at hP1
    exact hP1
  rcases hl with hl | ⟨host, hl⟩
  · exact va_put (D := D) (ci := c) (ty := ty) (C := C) (T := T) (N := N) hx hb hts (fun _ q => q) ty0 k4 k5 hown hG.2.1 hP (pz_ws_D hinj M) hS j h3 k1 f hf (pz_use hG.1 hl rfl args) (fun _ q => q) hfin hty hn hfit hlen h go
  · exact va_putN (D := D) (ci := c) (ty := ty) (C := C) (T := T) (N := N) hx hb hts (fun _ q => q) ty0 k4 k5 hown hG.2.1 hP (pz_ws_D hinj M) hS j h3 k1 f hf (pz_use hG.1 hl rfl args) (fun _ q => q) hfin hty hn hfit hlen h go
theorem pz_fv_self {ad : Nat → Nat} {M : pz_M} {k f : Nat} {x : Int} : pz_fv ad (pz_wr M k f x) k f 0 = .int (Int32.ofInt x) := by
  unfold pz_fv pz_wr
  rw [if_pos rfl, if_pos ⟨rfl, rfl⟩]
theorem ok_putI (hC : pz_clsOK c C T N) (hf : f < N) (hk : (pz_fks.getD c [])[f]? = some 0) (hs : pz_sid sd c = true) (hl : pz_flnk (rw_y row).cls idx (T f).1 (T f).2.1 (T f).2.2.1) (hfin : (T f).2.2.2 = false) {z : Bool} (hty : parseFieldDescriptor (T f).2.2.1 = some (bif z then .boolean else .int)) (h : decode (rw_c row) pc = .ok (.putfield idx, 3)) : pz_OK sd row pc (op_putI z c f (pc + 3)) := by
  intro D cI cB ad d p l e s m args below meth cd hCx als ast M H locs ls hI
  obtain ⟨hL, hoA, hoS, hMi, hP, hS⟩ := hI
  unfold op_putI
  dsimp only
  match ast, hoS with
  | [], _ => exact ⟨fun _ _ _ _ hf => (by cases hf), fun _ hf => (by cases hf)⟩
  | [.inl _], _ => exact ⟨fun _ _ _ _ hf => (by cases hf), fun _ hf => (by cases hf)⟩
  | .inr _ :: _, _ => exact ⟨fun _ _ _ _ hf => (by cases hf), fun _ hf => (by cases hf)⟩
  | .inl _ :: .inl _ :: _, _ => exact ⟨fun _ _ _ _ hf => (by cases hf), fun _ hf => (by cases hf)⟩
  | .inl _ :: .inr none :: _, _ => exact ⟨fun _ _ _ _ hf => (by cases hf), fun _ hf => (by cases hf)⟩
  | .inl x :: .inr (some k) :: st, hoS =>
    dsimp only
    cases hck : Nat.beq (pz_cls k) c && (!z || (decide (x = 0) || decide (x = 1))) with
    | false => exact ⟨fun _ _ _ _ hf => (by cases hf), fun _ hf => (by cases hf)⟩
    | true =>
      rw [Bool.and_eq_true] at hck
      obtain ⟨hck, hz⟩ := hck
      have hck := Nat.eq_of_beq_eq_true hck
      have hxi : pz_in x := hoS (.inl x) List.mem_cons_self
      refine ⟨fun pc' als' ast' M' hf0 Q kk => ?_, fun _ hf => (by cases hf)⟩
      cases hf0
      refine pz_put_row (v := pzI x) (x := x) hCx hP hS hC hf hk hs hl hfin hty hck ?_ ?_ pz_fv_self h (fun H1 locs1 hP1 hS1 => kk H1 locs1 ls ⟨hL, hoA, fun w hw => hoS w (List.mem_cons_of_mem _ (List.mem_cons_of_mem _ hw)), pz_wr_in hMi hxi, hP1, hS1⟩)
      · cases z with
        | false => rfl
        | true =>
          simp at hz
          rcases hz with rfl | rfl
          · exact (by decide : narrow .boolean (.int (Int32.ofInt 0)) = .int (Int32.ofInt 0))
          · exact (by decide : narrow .boolean (.int (Int32.ofInt 1)) = .int (Int32.ofInt 1))
      · cases z with
        | false => rfl
        | true =>
          simp at hz
          rcases hz with rfl | rfl
          · exact (by decide : fits .boolean (.int (Int32.ofInt 0)) = true)
          · exact (by decide : fits .boolean (.int (Int32.ofInt 1)) = true)
theorem pz_in_small : ∀ t : Nat, t ≤ 200 → pz_in (t : Int) := by
  intro t h
  unfold pz_in
  have h2 : (Int32.ofInt (t : Int)).toInt = (t : Int) := by
    rw [Int32.toInt_ofInt_of_le] <;> omega
  exact h2
theorem ok_putM (hC : pz_clsOK c C T N) (hf : f < N) (hk : (pz_fks.getD c [])[f]? = some 2) (hs : pz_sid sd c = true) (hl : pz_flnk (rw_y row).cls idx (T f).1 (T f).2.1 (T f).2.2.1) (hfin : (T f).2.2.2 = false) {ty : FieldType} (hty : parseFieldDescriptor (T f).2.2.1 = some ty) (hr : (∃ q, ty = .object q) ∨ ∃ q, ty = .array q) (h : decode (rw_c row) pc = .ok (.putfield idx, 3)) : pz_OK sd row pc (op_putM c f (pc + 3)) := by
  intro D cI cB ad d p l e s m args below meth cd hCx als ast M H locs ls hI
  obtain ⟨hL, hoA, hoS, hMi, hP, hS⟩ := hI
  unfold op_putM
  dsimp only
  match ast, hoS with
  | [], _ => exact ⟨fun _ _ _ _ hf => (by cases hf), fun _ hf => (by cases hf)⟩
  | .inl _ :: _, _ => exact ⟨fun _ _ _ _ hf => (by cases hf), fun _ hf => (by cases hf)⟩
  | .inr none :: _, _ => exact ⟨fun _ _ _ _ hf => (by cases hf), fun _ hf => (by cases hf)⟩
  | [.inr (some _)], _ => exact ⟨fun _ _ _ _ hf => (by cases hf), fun _ hf => (by cases hf)⟩
  | .inr (some _) :: .inl _ :: _, _ => exact ⟨fun _ _ _ _ hf => (by cases hf), fun _ hf => (by cases hf)⟩
  | .inr (some _) :: .inr none :: _, _ => exact ⟨fun _ _ _ _ hf => (by cases hf), fun _ hf => (by cases hf)⟩
  | .inr (some t) :: .inr (some k) :: st, hoS =>
    dsimp only
    cases hck : Nat.beq (pz_cls k) c && Nat.ble t 200 with
    | false => exact ⟨fun _ _ _ _ hf => (by cases hf), fun _ hf => (by cases hf)⟩
    | true =>
      rw [Bool.and_eq_true] at hck
      obtain ⟨hck, ht⟩ := hck
      have hck := Nat.eq_of_beq_eq_true hck
      have ht := Nat.le_of_ble_eq_true ht
      refine ⟨fun pc' als' ast' M' hf0 Q kk => ?_, fun _ hf => (by cases hf)⟩
      cases hf0
      refine pz_put_row (v := pzR t) (x := (t : Int)) hCx hP hS hC hf hk hs hl hfin hty hck ?_ ?_ ?_ h (fun H1 locs1 hP1 hS1 => kk H1 locs1 ls ⟨hL, hoA, fun w hw => hoS w (List.mem_cons_of_mem _ (List.mem_cons_of_mem _ hw)), pz_wr_in hMi (pz_in_small t ht), hP1, hS1⟩)
      · rcases hr with ⟨q, rfl⟩ | ⟨q, rfl⟩ <;> rfl
      · rcases hr with ⟨q, rfl⟩ | ⟨q, rfl⟩ <;> rfl
      · unfold pz_fv pz_wr
        simp [pz_v]
end PZF
