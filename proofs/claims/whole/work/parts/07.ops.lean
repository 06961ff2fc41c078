/-! ===== the steps: what they do, and that the machine does so ===== -/
abbrev pzJ (x : Int) : Int32 := Int32.ofInt x
theorem pz_in_toInt (v : Int32) : pz_in v.toInt := by unfold pz_in; rw [Int32.ofInt_toInt]
theorem pz_v_toInt (ad : Nat → Nat) (v : Int32) : pz_v ad (pzI v.toInt) = .int v := by show Value.int (Int32.ofInt v.toInt) = _; rw [Int32.ofInt_toInt]
/-- a step on the stack alone -/
def op_stk (g : List pz_V → Option (List pz_V)) (nx : Nat) : pz_F := fun σ => (g σ.2.2.1).map fun st => .inl (nx, σ.2.1, st, σ.2.2.2)
def sg_const (v : Int) : List pz_V → Option (List pz_V) := fun st => some (pzI v :: st)
def sg_bin (f : Int32 → Int32 → Int32) : List pz_V → Option (List pz_V)
  | .inl y :: .inl x :: st => some (pzI (f (pzJ x) (pzJ y)).toInt :: st)
  | _ => none
def sg_div (f : Int32 → Int32 → Int32) : List pz_V → Option (List pz_V)
  | .inl y :: .inl x :: st => if y = 0 then none else some (pzI (f (pzJ x) (pzJ y)).toInt :: st)
  | _ => none
def sg_un (f : Int32 → Int32) : List pz_V → Option (List pz_V)
  | .inl x :: st => some (pzI (f (pzJ x)).toInt :: st)
  | _ => none
def sg_dup : List pz_V → Option (List pz_V)
  | v :: st => some (v :: v :: st)
  | _ => none
def sg_pop : List pz_V → Option (List pz_V)
  | _ :: st => some st
  | _ => none
def sg_dup2 : List pz_V → Option (List pz_V)
  | v :: w :: st => some (v :: w :: v :: w :: st)
  | _ => none
section PZO
variable {sd : Bool} {row : pz_Row} {pc nx : Nat}
theorem ok_stk {g : List pz_V → Option (List pz_V)} (h : ∀ (ad : Nat → Nat) (st st' : List pz_V), g st = some st' → (∀ v ∈ st, pz_ok v) → (∀ v ∈ st', pz_ok v) ∧ ∀ (p : Program) (l : Launch) (e : Env) (R : Room) (s : State) (m : MethodId) (args : Array Value) (below : List Frame) (meth : Method) (c : Code) (H : Heap) (locs : List Loc) (Q : State → Prop) (ls : Array Slot), p.tables.exec = Jvm.exec → c.code = rw_c row → s.vm.findClass (rw_y row).cls = some m.cls → pz_W s →
    W p l e R s m args below meth c H locs 0 0 Q (F0 m nx ls (st'.map (pz_v ad))) → W p l e R s m args below meth c H locs 0 0 Q (F0 m pc ls (st.map (pz_v ad)))) : pz_OK sd row pc (op_stk g nx) := by
  intro D cI cB ad d p l e s m args below meth c hC als ast M H locs ls hI
  obtain ⟨hx, hb, hml, hown, hlocks, hret, hd, hG, hinj⟩ := hC
  obtain ⟨hL, hoA, hoS, hMi, hP, hS⟩ := hI
  refine ⟨fun pc' als' ast' M' hf Q kk => ?_, fun r hf => ?_⟩
  · obtain ⟨st', h1, h2⟩ := Option.map_eq_some_iff.mp hf
    cases h2
    obtain ⟨h3, h4⟩ := h ad ast _ h1 hoS
    exact h4 p l e _ s m args below meth c H locs Q ls hx hb hown hG.1 (kk H locs ls ⟨hL, hoA, h3, hMi, hP, hS⟩)
  · obtain ⟨st', h1, h2⟩ := Option.map_eq_some_iff.mp hf
    cases h2
theorem ok_iconst {n : Int} (h : decode (rw_c row) pc = .ok (.iconst n, 1)) (hv : pz_in n) : pz_OK sd row pc (op_stk (sg_const n) (pc + 1)) := by
  refine ok_stk fun ad st st' h1 ho => ?_
  cases h1
  exact ⟨fun v hm => (List.mem_cons.mp hm).elim (fun q => by rw [q]; exact hv) (ho v), fun p l e R s m args below meth c H locs Q ls hx hb hown hw k => lv_iconst hx hb h rfl k⟩
theorem ok_bipush {n : Int} (h : decode (rw_c row) pc = .ok (.bipush n, 2)) (hv : pz_in n) (hn : (Int8.ofInt n).toInt32 = Int32.ofInt n) : pz_OK sd row pc (op_stk (sg_const n) (pc + 2)) := by
  refine ok_stk fun ad st st' h1 ho => ?_
  cases h1
  exact ⟨fun v hm => (List.mem_cons.mp hm).elim (fun q => by rw [q]; exact hv) (ho v), fun p l e R s m args below meth c H locs Q ls hx hb hown hw k => lv_bipush hx hb h hn k⟩
theorem ok_sipush {n : Int} (h : decode (rw_c row) pc = .ok (.sipush n, 3)) (hv : pz_in n) (hn : (Int16.ofInt n).toInt32 = Int32.ofInt n) : pz_OK sd row pc (op_stk (sg_const n) (pc + 3)) := by
  refine ok_stk fun ad st st' h1 ho => ?_
  cases h1
  exact ⟨fun v hm => (List.mem_cons.mp hm).elim (fun q => by rw [q]; exact hv) (ho v), fun p l e R s m args below meth c H locs Q ls hx hb hown hw k => lv_sipush hx hb h hn k⟩
theorem ok_ldc {n : Int} {z : Int32} {idx : Nat} (h : decode (rw_c row) pc = .ok (.ldc idx, 2)) (hw0 : Cond.constant (rw_y row).cls idx z ∈ lw_tbl) (hv : pz_in n) (hn : Int32.ofInt n = z) : pz_OK sd row pc (op_stk (sg_const n) (pc + 2)) := by
  refine ok_stk fun ad st st' h1 ho => ?_
  cases h1
  subst hn
  exact ⟨fun v hm => (List.mem_cons.mp hm).elim (fun q => by rw [q]; exact hv) (ho v), fun p l e R s m args below meth c H locs Q ls hx hb hown hw k => lv_ldc hx hb hown (pz_use hw hw0 rfl args) h k⟩
theorem ok_ldcw {n : Int} {z : Int32} {idx : Nat} (h : decode (rw_c row) pc = .ok (.ldc_w idx, 3)) (hw0 : Cond.constant (rw_y row).cls idx z ∈ lw_tbl) (hv : pz_in n) (hn : Int32.ofInt n = z) : pz_OK sd row pc (op_stk (sg_const n) (pc + 3)) := by
  refine ok_stk fun ad st st' h1 ho => ?_
  cases h1
  subst hn
  exact ⟨fun v hm => (List.mem_cons.mp hm).elim (fun q => by rw [q]; exact hv) (ho v), fun p l e R s m args below meth c H locs Q ls hx hb hown hw k => lv_ldcw hx hb hown (pz_use hw hw0 rfl args) h k⟩
theorem ok_bin {f : Int32 → Int32 → Int32} (h : ∀ (p : Program) (l : Launch) (e : Env) (R : Room) (s : State) (m : MethodId) (args : Array Value) (below : List Frame) (meth : Method) (c : Code) (H : Heap) (locs : List Loc) (Q : State → Prop) (ls : Array Slot) (rest : List Value) (x y : Int32), p.tables.exec = Jvm.exec → c.code = rw_c row → W p l e R s m args below meth c H locs 0 0 Q (F0 m nx ls (.int (f x y) :: rest)) → W p l e R s m args below meth c H locs 0 0 Q (F0 m pc ls (.int y :: .int x :: rest))) : pz_OK sd row pc (op_stk (sg_bin f) nx) := by
  refine ok_stk fun ad st st' h1 ho => ?_
  match st, h1 with
  | .inl y :: .inl x :: st, h1 =>
    cases h1
    refine ⟨fun v hm => (List.mem_cons.mp hm).elim (fun q => by rw [q]; exact pz_in_toInt _) (fun q => ho v (List.mem_cons_of_mem _ (List.mem_cons_of_mem _ q))), fun p l e R s m args below meth c H locs Q ls hx hb hown hw k => ?_⟩
    refine h p l e R s m args below meth c H locs Q ls _ _ _ hx hb ?_
    rw [List.map_cons, pz_v_toInt] at k
    exact k
theorem ok_div {f : Int32 → Int32 → Int32} (h : ∀ (p : Program) (l : Launch) (e : Env) (R : Room) (s : State) (m : MethodId) (args : Array Value) (below : List Frame) (meth : Method) (c : Code) (H : Heap) (locs : List Loc) (Q : State → Prop) (ls : Array Slot) (rest : List Value) (x y : Int32), p.tables.exec = Jvm.exec → c.code = rw_c row → ¬ y = 0 → W p l e R s m args below meth c H locs 0 0 Q (F0 m nx ls (.int (f x y) :: rest)) → W p l e R s m args below meth c H locs 0 0 Q (F0 m pc ls (.int y :: .int x :: rest))) : pz_OK sd row pc (op_stk (sg_div f) nx) := by
  refine ok_stk fun ad st st' h1 ho => ?_
  match st, h1 with
  | .inl y :: .inl x :: st, h1 =>
    by_cases hy : y = 0
    · simp [sg_div, hy] at h1
    · simp only [sg_div, if_neg hy] at h1
      cases h1
      refine ⟨fun v hm => (List.mem_cons.mp hm).elim (fun q => by rw [q]; exact pz_in_toInt _) (fun q => ho v (List.mem_cons_of_mem _ (List.mem_cons_of_mem _ q))), fun p l e R s m args below meth c H locs Q ls hx hb hown hw k => ?_⟩
      have hyi : pz_in y := ho (.inl y) List.mem_cons_self
      refine h p l e R s m args below meth c H locs Q ls _ _ _ hx hb (fun z => hy ?_) ?_
      · rw [← hyi, z]; rfl
      rw [List.map_cons, pz_v_toInt] at k
      exact k
theorem ok_un {f : Int32 → Int32} (h : ∀ (p : Program) (l : Launch) (e : Env) (R : Room) (s : State) (m : MethodId) (args : Array Value) (below : List Frame) (meth : Method) (c : Code) (H : Heap) (locs : List Loc) (Q : State → Prop) (ls : Array Slot) (rest : List Value) (x : Int32), p.tables.exec = Jvm.exec → c.code = rw_c row → W p l e R s m args below meth c H locs 0 0 Q (F0 m nx ls (.int (f x) :: rest)) → W p l e R s m args below meth c H locs 0 0 Q (F0 m pc ls (.int x :: rest))) : pz_OK sd row pc (op_stk (sg_un f) nx) := by
  refine ok_stk fun ad st st' h1 ho => ?_
  match st, h1 with
  | .inl x :: st, h1 =>
    cases h1
    refine ⟨fun v hm => (List.mem_cons.mp hm).elim (fun q => by rw [q]; exact pz_in_toInt _) (fun q => ho v (List.mem_cons_of_mem _ q)), fun p l e R s m args below meth c H locs Q ls hx hb hown hw k => ?_⟩
    refine h p l e R s m args below meth c H locs Q ls _ _ hx hb ?_
    rw [List.map_cons, pz_v_toInt] at k
    exact k
def f_add (x y : Int32) : Int32 := x + y
def f_sub (x y : Int32) : Int32 := x - y
def f_mul (x y : Int32) : Int32 := x * y
def f_and (x y : Int32) : Int32 := x &&& y
def f_or (x y : Int32) : Int32 := x ||| y
def f_xor (x y : Int32) : Int32 := x ^^^ y
def f_div (x y : Int32) : Int32 := x / y
def f_rem (x y : Int32) : Int32 := x - x / y * y
def f_shl (x y : Int32) : Int32 := x <<< (y &&& 31)
def f_shr (x y : Int32) : Int32 := x >>> (y &&& 31)
def f_ushr (x y : Int32) : Int32 := (x.toUInt32 >>> (y.toUInt32 &&& Int32.toUInt32 31)).toInt32
def f_neg (x : Int32) : Int32 := -x
def f_i2b (x : Int32) : Int32 := x.toInt8.toInt32
def f_max (x y : Int32) : Int32 := if x < y then y else x
def f_min (x y : Int32) : Int32 := if x < y then x else y
theorem ok_iadd (h : decode (rw_c row) pc = .ok (.iadd, 1)) : pz_OK sd row pc (op_stk (sg_bin f_add) (pc + 1)) := ok_bin fun _ _ _ _ _ _ _ _ _ _ _ _ _ _ _ _ _ hx hb k => lv_iadd hx hb h k
theorem ok_isub (h : decode (rw_c row) pc = .ok (.isub, 1)) : pz_OK sd row pc (op_stk (sg_bin f_sub) (pc + 1)) := ok_bin fun _ _ _ _ _ _ _ _ _ _ _ _ _ _ _ _ _ hx hb k => lv_isub hx hb h k
theorem ok_imul (h : decode (rw_c row) pc = .ok (.imul, 1)) : pz_OK sd row pc (op_stk (sg_bin f_mul) (pc + 1)) := ok_bin fun _ _ _ _ _ _ _ _ _ _ _ _ _ _ _ _ _ hx hb k => lv_imul hx hb h k
theorem ok_iand (h : decode (rw_c row) pc = .ok (.iand, 1)) : pz_OK sd row pc (op_stk (sg_bin f_and) (pc + 1)) := ok_bin fun _ _ _ _ _ _ _ _ _ _ _ _ _ _ _ _ _ hx hb k => lv_iand hx hb h k
theorem ok_ior (h : decode (rw_c row) pc = .ok (.ior, 1)) : pz_OK sd row pc (op_stk (sg_bin f_or) (pc + 1)) := ok_bin fun _ _ _ _ _ _ _ _ _ _ _ _ _ _ _ _ _ hx hb k => lv_ior hx hb h k
theorem ok_ixor (h : decode (rw_c row) pc = .ok (.ixor, 1)) : pz_OK sd row pc (op_stk (sg_bin f_xor) (pc + 1)) := ok_bin fun _ _ _ _ _ _ _ _ _ _ _ _ _ _ _ _ _ hx hb k => lv_ixor hx hb h k
theorem ok_ishl (h : decode (rw_c row) pc = .ok (.ishl, 1)) : pz_OK sd row pc (op_stk (sg_bin f_shl) (pc + 1)) := ok_bin fun _ _ _ _ _ _ _ _ _ _ _ _ _ _ _ _ _ hx hb k => lv_ishl hx hb h k
theorem ok_ishr (h : decode (rw_c row) pc = .ok (.ishr, 1)) : pz_OK sd row pc (op_stk (sg_bin f_shr) (pc + 1)) := ok_bin fun _ _ _ _ _ _ _ _ _ _ _ _ _ _ _ _ _ hx hb k => lv_ishr hx hb h k
theorem ok_iushr (h : decode (rw_c row) pc = .ok (.iushr, 1)) : pz_OK sd row pc (op_stk (sg_bin f_ushr) (pc + 1)) := ok_bin fun _ _ _ _ _ _ _ _ _ _ _ _ _ _ _ _ _ hx hb k => lv_iushr hx hb h rfl k
theorem ok_idiv (h : decode (rw_c row) pc = .ok (.idiv, 1)) : pz_OK sd row pc (op_stk (sg_div f_div) (pc + 1)) := ok_div fun _ _ _ _ _ _ _ _ _ _ _ _ _ _ _ _ _ hx hb hn k => lv_idiv hx hb h hn k
theorem ok_irem (h : decode (rw_c row) pc = .ok (.irem, 1)) : pz_OK sd row pc (op_stk (sg_div f_rem) (pc + 1)) := ok_div fun _ _ _ _ _ _ _ _ _ _ _ _ _ _ _ _ _ hx hb hn k => lv_irem hx hb h hn k
theorem ok_ineg (h : decode (rw_c row) pc = .ok (.ineg, 1)) : pz_OK sd row pc (op_stk (sg_un f_neg) (pc + 1)) := ok_un fun _ _ _ _ _ _ _ _ _ _ _ _ _ _ _ _ hx hb k => lv_ineg hx hb h k
theorem ok_i2b (h : decode (rw_c row) pc = .ok (.i2b, 1)) : pz_OK sd row pc (op_stk (sg_un f_i2b) (pc + 1)) := ok_un fun _ _ _ _ _ _ _ _ _ _ _ _ _ _ _ _ hx hb k => lv_i2b hx hb h rfl k
theorem ok_dup (h : decode (rw_c row) pc = .ok (.dup, 1)) : pz_OK sd row pc (op_stk sg_dup (pc + 1)) := by
  refine ok_stk fun ad st st' h1 ho => ?_
  match st, h1 with
  | v :: st, h1 =>
    cases h1
    exact ⟨fun w hm => (List.mem_cons.mp hm).elim (fun q => by rw [q]; exact ho v List.mem_cons_self) (ho w), fun p l e R s m args below meth c H locs Q ls hx hb hown hw k => lv_dup hx hb h (pz_v_cat ad v) k⟩
theorem ok_pop (h : decode (rw_c row) pc = .ok (.pop, 1)) : pz_OK sd row pc (op_stk sg_pop (pc + 1)) := by
  refine ok_stk fun ad st st' h1 ho => ?_
  match st, h1 with
  | v :: st, h1 =>
    cases h1
    exact ⟨fun w hm => ho w (List.mem_cons_of_mem _ hm), fun p l e R s m args below meth c H locs Q ls hx hb hown hw k => lv_pop hx hb h (pz_v_cat ad v) k⟩
theorem ok_dup2 (h : decode (rw_c row) pc = .ok (.dup2, 1)) : pz_OK sd row pc (op_stk sg_dup2 (pc + 1)) := by
  refine ok_stk fun ad st st' h1 ho => ?_
  match st, h1 with
  | v :: w :: st, h1 =>
    cases h1
    have hv := ho v List.mem_cons_self
    have hw := ho w (List.mem_cons_of_mem _ List.mem_cons_self)
    exact ⟨fun u hm => (List.mem_cons.mp hm).elim (fun q => by rw [q]; exact hv) (fun hm => (List.mem_cons.mp hm).elim (fun q => by rw [q]; exact hw) (ho u)), fun p l e R s m args below meth c H locs Q ls hx hb hown hw k => lv_dup2_11 hx hb h (pz_v_cat ad v) (pz_v_cat ad w) k⟩
end PZO
/-! locals -/
def op_iload (i nx : Nat) : pz_F := fun σ => match σ.2.1[i]? with
  | some (.inl x) => some (.inl (nx, σ.2.1, pzI x :: σ.2.2.1, σ.2.2.2))
  | _ => none
def op_aload (i nx : Nat) : pz_F := fun σ => match σ.2.1[i]? with
  | some (.inr (some k)) => some (.inl (nx, σ.2.1, pzR k :: σ.2.2.1, σ.2.2.2))
  | _ => none
def op_istore (i nx : Nat) : pz_F := fun σ => match σ.2.2.1 with
  | .inl x :: st => if i < σ.2.1.length then some (.inl (nx, σ.2.1.set i (pzI x), st, σ.2.2.2)) else none
  | _ => none
def op_astore (i nx : Nat) : pz_F := fun σ => match σ.2.2.1 with
  | .inr (some k) :: st => if i < σ.2.1.length then some (.inl (nx, σ.2.1.set i (pzR k), st, σ.2.2.2)) else none
  | _ => none
def op_iinc (i : Nat) (n : Int) (nx : Nat) : pz_F := fun σ => match σ.2.1[i]? with
  | some (.inl x) => some (.inl (nx, σ.2.1.set i (pzI (f_add (pzJ x) (pzJ n)).toInt), σ.2.2.1, σ.2.2.2))
  | _ => none
def pz_lv (ad : Nat → Nat) (als : List pz_V) : List (Nat × Value) := (List.range als.length).filterMap fun (i : Nat) => match (als[i]? : Option pz_V) with
  | some (.inl x) => some (i, .int (Int32.ofInt x))
  | some (.inr (some k)) => some (i, .ref (ad k))
  | _ => none
theorem pz_lv_mem {ad : Nat → Nat} {als : List pz_V} {i : Nat} {v : pz_V} (h : als[i]? = some v) (hn : v ≠ pzN) : (i, pz_v ad v) ∈ pz_lv ad als := by
  unfold pz_lv
  refine List.mem_filterMap.mpr ⟨i, List.mem_range.mpr (List.getElem?_eq_some_iff.mp h).1, ?_⟩
  rw [h]
  rcases v with x | _ | k
  · rfl
  · exact absurd rfl hn
  · rfl
theorem pz_lv_has {ad : Nat → Nat} {n : Nat} {als : List pz_V} {ls : Array Slot} (h : pz_L ad n als ls) : lv_has ls n (pz_lv ad als) := by
  obtain ⟨h1, h2, h3, h4⟩ := h
  refine ⟨h1, h3, fun q hq => ?_⟩
  unfold pz_lv at hq
  obtain ⟨i, -, hi⟩ := List.mem_filterMap.mp hq
  cases hv : als[i]? with
  | none => rw [hv] at hi; cases hi
  | some v =>
    rw [hv] at hi
    rcases v with x | _ | k
    · cases hi
      exact h4 i _ hv (fun z => by cases z)
    · cases hi
    · cases hi
      exact h4 i _ hv (fun z => by cases z)
theorem pz_L_set {ad : Nat → Nat} {n : Nat} {als : List pz_V} {ls' : Array Slot} {i : Nat} {v : pz_V} (hl : als.length = n) (h : lv_has ls' n ((i, pz_v ad v) :: (pz_lv ad als).filter (fun q => !(q.1 == i) && !(q.1 + 1 == i && q.2.category == 2)))) : pz_L ad n (als.set i v) ls' := by
  obtain ⟨h1, h2, h3⟩ := h
  refine ⟨h1, by rw [List.length_set]; exact hl, h2, fun j w hw hn => ?_⟩
  by_cases hj : j = i
  · subst hj
    have hlt : j < als.length := by
      have := (List.getElem?_eq_some_iff.mp hw).1
      rw [List.length_set] at this
      exact this
    rw [List.getElem?_set_self hlt] at hw
    cases hw
    exact h3 _ List.mem_cons_self
  · rw [List.getElem?_set_ne (Ne.symm hj)] at hw
    refine h3 (j, pz_v ad w) (List.mem_cons_of_mem _ (List.mem_filter.mpr ⟨pz_lv_mem hw hn, ?_⟩))
    have hc := pz_v_cat ad w
    simp [hj, hc]
theorem pz_ok_set {als : List pz_V} {i : Nat} {v : pz_V} (h : ∀ w ∈ als, pz_ok w) (hv : pz_ok v) : ∀ w ∈ als.set i v, pz_ok w := by
  intro w hw
  rcases List.mem_or_eq_of_mem_set hw with h1 | h1
  · exact h w h1
  · rw [h1]; exact hv
section PZL
variable {sd : Bool} {row : pz_Row} {pc : Nat}
theorem ok_iload_of {i nx : Nat} (h : ∀ (p : Program) (l : Launch) (e : Env) (R : Room) (s : State) (m : MethodId) (args : Array Value) (below : List Frame) (meth : Method) (c : Code) (H : Heap) (locs : List Loc) (Q : State → Prop) (ls : Array Slot) (rest : List Value) (x : Int32), p.tables.exec = Jvm.exec → c.code = rw_c row → ls[i]? = some (.val (.int x)) → W p l e R s m args below meth c H locs 0 0 Q (F0 m nx ls (.int x :: rest)) → W p l e R s m args below meth c H locs 0 0 Q (F0 m pc ls rest)) : pz_OK sd row pc (op_iload i nx) := by
  intro D cI cB ad d p l e s m args below meth c hC als ast M H locs ls hI
  obtain ⟨hx, hb, hml, hown, hlocks, hret, hd, hG, hinj⟩ := hC
  obtain ⟨hL, hoA, hoS, hMi, hP, hS⟩ := hI
  unfold op_iload
  dsimp only
  cases hv : als[i]? with
  | none => exact ⟨fun _ _ _ _ hf => (by cases hf), fun _ hf => (by cases hf)⟩
  | some v =>
    rcases v with x | k
    · refine ⟨fun pc' als' ast' M' hf Q kk => ?_, fun _ hf => (by cases hf)⟩
      cases hf
      refine h p l e _ s m args below meth c H locs Q ls _ _ hx hb (hL.2.2.2 i _ hv (fun z => by cases z)) ?_
      exact kk H locs ls ⟨hL, hoA, fun w hw => (List.mem_cons.mp hw).elim (fun q => by rw [q]; exact hoA _ (List.mem_of_getElem? hv)) (hoS w), hMi, hP, hS⟩
    · exact ⟨fun _ _ _ _ hf => (by cases hf), fun _ hf => (by cases hf)⟩
theorem ok_iload_n {k : Fin 4} (h : decode (rw_c row) pc = .ok (.iload_n k, 1)) : pz_OK sd row pc (op_iload k.val (pc + 1)) := ok_iload_of fun _ _ _ _ _ _ _ _ _ _ _ _ _ _ _ _ hx hb hl k => lv_iload_n hx hb h rfl hl k
theorem ok_iload {i : Nat} (h : decode (rw_c row) pc = .ok (.iload i, 2)) : pz_OK sd row pc (op_iload i (pc + 2)) := ok_iload_of fun _ _ _ _ _ _ _ _ _ _ _ _ _ _ _ _ hx hb hl k => lv_iload hx hb h hl k
theorem ok_aload_of {i nx : Nat} (h : ∀ (p : Program) (l : Launch) (e : Env) (R : Room) (s : State) (m : MethodId) (args : Array Value) (below : List Frame) (meth : Method) (c : Code) (H : Heap) (locs : List Loc) (Q : State → Prop) (ls : Array Slot) (rest : List Value) (x : Nat), p.tables.exec = Jvm.exec → c.code = rw_c row → ls[i]? = some (.val (.ref x)) → W p l e R s m args below meth c H locs 0 0 Q (F0 m nx ls (.ref x :: rest)) → W p l e R s m args below meth c H locs 0 0 Q (F0 m pc ls rest)) : pz_OK sd row pc (op_aload i nx) := by
  intro D cI cB ad d p l e s m args below meth c hC als ast M H locs ls hI
  obtain ⟨hx, hb, hml, hown, hlocks, hret, hd, hG, hinj⟩ := hC
  obtain ⟨hL, hoA, hoS, hMi, hP, hS⟩ := hI
  unfold op_aload
  dsimp only
  cases hv : als[i]? with
  | none => exact ⟨fun _ _ _ _ hf => (by cases hf), fun _ hf => (by cases hf)⟩
  | some v =>
    rcases v with x | _ | k
    · exact ⟨fun _ _ _ _ hf => (by cases hf), fun _ hf => (by cases hf)⟩
    · exact ⟨fun _ _ _ _ hf => (by cases hf), fun _ hf => (by cases hf)⟩
    · refine ⟨fun pc' als' ast' M' hf Q kk => ?_, fun _ hf => (by cases hf)⟩
      cases hf
      refine h p l e _ s m args below meth c H locs Q ls _ _ hx hb (hL.2.2.2 i _ hv (fun z => by cases z)) ?_
      exact kk H locs ls ⟨hL, hoA, fun w hw => (List.mem_cons.mp hw).elim (fun q => by rw [q]; trivial) (hoS w), hMi, hP, hS⟩
theorem ok_aload_n {k : Fin 4} (h : decode (rw_c row) pc = .ok (.aload_n k, 1)) : pz_OK sd row pc (op_aload k.val (pc + 1)) := ok_aload_of fun _ _ _ _ _ _ _ _ _ _ _ _ _ _ _ _ hx hb hl k => lv_aload_n hx hb h rfl hl k
theorem ok_aload {i : Nat} (h : decode (rw_c row) pc = .ok (.aload i, 2)) : pz_OK sd row pc (op_aload i (pc + 2)) := ok_aload_of fun _ _ _ _ _ _ _ _ _ _ _ _ _ _ _ _ hx hb hl k => lv_aload hx hb h hl k
theorem ok_istore_of {i nx : Nat} (h : ∀ (p : Program) (l : Launch) (e : Env) (R : Room) (s : State) (m : MethodId) (args : Array Value) (below : List Frame) (meth : Method) (c : Code) (H : Heap) (locs : List Loc) (Q : State → Prop) (ls : Array Slot) (rest : List Value) (x : Int32) (nL : Nat) (lv : List (Nat × Value)), p.tables.exec = Jvm.exec → c.code = rw_c row → lv_has ls nL lv → i < nL → (∀ ls' : Array Slot, lv_has ls' nL ((i, Value.int x) :: lv.filter (fun q => !(q.1 == i) && !(q.1 + 1 == i && q.2.category == 2))) → W p l e R s m args below meth c H locs 0 0 Q (F0 m nx ls' rest)) → W p l e R s m args below meth c H locs 0 0 Q (F0 m pc ls (.int x :: rest))) : pz_OK sd row pc (op_istore i nx) := by
  intro D cI cB ad d p l e s m args below meth c hC als ast M H locs ls hI
  obtain ⟨hx, hb, hml, hown, hlocks, hret, hd, hG, hinj⟩ := hC
  obtain ⟨hL, hoA, hoS, hMi, hP, hS⟩ := hI
  unfold op_istore
  dsimp only
  match ast, hoS with
  | [], _ => exact ⟨fun _ _ _ _ hf => (by cases hf), fun _ hf => (by cases hf)⟩
  | .inr _ :: _, _ => exact ⟨fun _ _ _ _ hf => (by cases hf), fun _ hf => (by cases hf)⟩
  | .inl x :: st, hoS =>
    dsimp only
    by_cases hi : i < als.length
    · rw [if_pos hi]
      refine ⟨fun pc' als' ast' M' hf Q kk => ?_, fun _ hf => (by cases hf)⟩
      cases hf
      refine h p l e _ s m args below meth c H locs Q ls _ _ (rw_n row) (pz_lv ad als) hx hb (pz_lv_has hL) (by rw [← hL.2.1]; exact hi) (fun ls' hl => ?_)
      exact kk H locs ls' ⟨pz_L_set (v := pzI x) hL.2.1 hl, pz_ok_set hoA (hoS (.inl x) List.mem_cons_self), fun w hw => hoS w (List.mem_cons_of_mem _ hw), hMi, hP, hS⟩
    · rw [if_neg hi]
      exact ⟨fun _ _ _ _ hf => (by cases hf), fun _ hf => (by cases hf)⟩
theorem ok_istore_n {k : Fin 4} (h : decode (rw_c row) pc = .ok (.istore_n k, 1)) : pz_OK sd row pc (op_istore k.val (pc + 1)) := ok_istore_of fun _ _ _ _ _ _ _ _ _ _ _ _ _ _ _ _ _ _ hx hb hl hn k => lv_istore_n hx hb h rfl hl hn rfl k
theorem ok_istore {i : Nat} (h : decode (rw_c row) pc = .ok (.istore i, 2)) : pz_OK sd row pc (op_istore i (pc + 2)) := ok_istore_of fun _ _ _ _ _ _ _ _ _ _ _ _ _ _ _ _ _ _ hx hb hl hn k => lv_istore hx hb h hl hn rfl k
theorem ok_astore_of {i nx : Nat} (h : ∀ (p : Program) (l : Launch) (e : Env) (R : Room) (s : State) (m : MethodId) (args : Array Value) (below : List Frame) (meth : Method) (c : Code) (H : Heap) (locs : List Loc) (Q : State → Prop) (ls : Array Slot) (rest : List Value) (x : Nat) (nL : Nat) (lv : List (Nat × Value)), p.tables.exec = Jvm.exec → c.code = rw_c row → lv_has ls nL lv → i < nL → (∀ ls' : Array Slot, lv_has ls' nL ((i, Value.ref x) :: lv.filter (fun q => !(q.1 == i) && !(q.1 + 1 == i && q.2.category == 2))) → W p l e R s m args below meth c H locs 0 0 Q (F0 m nx ls' rest)) → W p l e R s m args below meth c H locs 0 0 Q (F0 m pc ls (.ref x :: rest))) : pz_OK sd row pc (op_astore i nx) := by
  intro D cI cB ad d p l e s m args below meth c hC als ast M H locs ls hI
  obtain ⟨hx, hb, hml, hown, hlocks, hret, hd, hG, hinj⟩ := hC
  obtain ⟨hL, hoA, hoS, hMi, hP, hS⟩ := hI
  unfold op_astore
  dsimp only
  match ast, hoS with
  | [], _ => exact ⟨fun _ _ _ _ hf => (by cases hf), fun _ hf => (by cases hf)⟩
  | .inl _ :: _, _ => exact ⟨fun _ _ _ _ hf => (by cases hf), fun _ hf => (by cases hf)⟩
  | .inr none :: _, _ => exact ⟨fun _ _ _ _ hf => (by cases hf), fun _ hf => (by cases hf)⟩
  | .inr (some x) :: st, hoS =>
    dsimp only
    by_cases hi : i < als.length
    · rw [if_pos hi]
      refine ⟨fun pc' als' ast' M' hf Q kk => ?_, fun _ hf => (by cases hf)⟩
      cases hf
      refine h p l e _ s m args below meth c H locs Q ls _ _ (rw_n row) (pz_lv ad als) hx hb (pz_lv_has hL) (by rw [← hL.2.1]; exact hi) (fun ls' hl => ?_)
      exact kk H locs ls' ⟨pz_L_set (v := pzR x) hL.2.1 hl, pz_ok_set hoA trivial, fun w hw => hoS w (List.mem_cons_of_mem _ hw), hMi, hP, hS⟩
    · rw [if_neg hi]
      exact ⟨fun _ _ _ _ hf => (by cases hf), fun _ hf => (by cases hf)⟩
theorem ok_astore_n {k : Fin 4} (h : decode (rw_c row) pc = .ok (.astore_n k, 1)) : pz_OK sd row pc (op_astore k.val (pc + 1)) := ok_astore_of fun _ _ _ _ _ _ _ _ _ _ _ _ _ _ _ _ _ _ hx hb hl hn k => lv_astore_n hx hb h rfl hl hn rfl k
theorem ok_iinc {i : Nat} {n : Int} (h : decode (rw_c row) pc = .ok (.iinc i n, 3)) : pz_OK sd row pc (op_iinc i n (pc + 3)) := by
  intro D cI cB ad d p l e s m args below meth c hC als ast M H locs ls hI
  obtain ⟨hx, hb, hml, hown, hlocks, hret, hd, hG, hinj⟩ := hC
  obtain ⟨hL, hoA, hoS, hMi, hP, hS⟩ := hI
  unfold op_iinc
  dsimp only
  cases hv : als[i]? with
  | none => exact ⟨fun _ _ _ _ hf => (by cases hf), fun _ hf => (by cases hf)⟩
  | some v =>
    rcases v with x | k
    · refine ⟨fun pc' als' ast' M' hf Q kk => ?_, fun _ hf => (by cases hf)⟩
      cases hf
      have hm := pz_lv_mem (ad := ad) hv (fun z => by cases z)
      obtain ⟨j, hj⟩ := List.getElem?_of_mem hm
      have hlt : i < rw_n row := by rw [← hL.2.1]; exact (List.getElem?_eq_some_iff.mp hv).1
      refine lv_iinc hx hb h (pz_lv_has hL) hj rfl hlt rfl (fun ls' hl => ?_)
      refine kk H locs ls' ⟨pz_L_set (v := pzI (f_add (pzJ x) (pzJ n)).toInt) hL.2.1 ?_, pz_ok_set hoA (pz_in_toInt _), hoS, hMi, hP, hS⟩
      rw [pz_v_toInt]
      exact hl
    · exact ⟨fun _ _ _ _ hf => (by cases hf), fun _ hf => (by cases hf)⟩
end PZL
