/-! ===== the abstract machine's cells on the heap ===== -/
def pz_v (ad : Nat → Nat) : pz_V → Value
  | .inl x => .int (Int32.ofInt x)
  | .inr (some k) => .ref (ad k)
  | .inr none => .null
def pz_in (x : Int) : Prop := (Int32.ofInt x).toInt = x
def pz_ok : pz_V → Prop
  | .inl x => pz_in x
  | .inr _ => True
def pz_fv (ad : Nat → Nat) (M : pz_M) (k j fk : Nat) : Value := if fk = 0 then .int (Int32.ofInt (M k j)) else if fk = 1 then .ref (ad (pz_ref k j)) else .ref (ad (M k j).toNat)
def pz_cell (cI cB : ClassId) (ad : Nat → Nat) (M : pz_M) (k : Nat) : va_E :=
  if pz_cls k = 20 ∨ pz_cls k = 21 then .inl (cI, pz_len k, .inl (fun i => Int32.ofInt (M k i)))
  else if pz_cls k = 22 then .inl (cB, pz_len k, .inl (fun i => Int32.ofInt (M k i)))
  else .inr (pz_cls k, (pz_fks.getD (pz_cls k) []).mapIdx (fun j fk => pz_fv ad M k j fk))
/-- the number of a side's j-th cell (31 is left free), and back -/
def pz_b (sd : Bool) (j : Nat) : Nat := bif sd then (if j < 31 then j else j + 1) else 100 + j
def pz_j (sd : Bool) (k : Nat) : Nat := bif sd then (if k < 31 then k else k - 1) else k - 100
theorem pz_b_inj {sd : Bool} {i j : Nat} (h : i ≠ j) : pz_b sd i ≠ pz_b sd j := by
  cases sd with
  | true =>
    show (if i < 31 then i else i + 1) ≠ (if j < 31 then j else j + 1)
    split <;> split <;> omega
  | false =>
    show 100 + i ≠ 100 + j
    omega
def pz_K (sd : Bool) : Nat := bif sd then pz_KX else pz_KY
def pz_ws (sd : Bool) (cI cB : ClassId) (ad : Nat → Nat) (M : pz_M) : va_W := (List.range (pz_K sd)).map (fun j => (ad (pz_b sd j), pz_cell cI cB ad M (pz_b sd j)))
def pz_Ar (sd : Bool) (ad : Nat → Nat) : Nat → Prop := fun q => ∃ j, j < pz_K sd ∧ q = ad (pz_b sd j)
def pz_inj (sd : Bool) (ad : Nat → Nat) : Prop := ∀ i j, i < pz_K sd → j < pz_K sd → ad (pz_b sd i) = ad (pz_b sd j) → i = j
/-- classes of a side -/
def pz_sid (sd : Bool) (c : Nat) : Bool := bif sd then (Nat.ble c 10 || Nat.beq c 20) else (Nat.beq c 11 || (Nat.beq c 21 || Nat.beq c 22))
theorem pz_cls_tab : ∀ sd : Bool, ∀ k, k < 133 → pz_sid sd (pz_cls k) = true → pz_j sd k < pz_K sd ∧ pz_b sd (pz_j sd k) = k := by decide +kernel
theorem pz_at {sd : Bool} {k : Nat} (h : pz_sid sd (pz_cls k) = true) : ∃ j, j < pz_K sd ∧ pz_b sd j = k := by
  by_cases hk : k < 133
  · obtain ⟨h1, h2⟩ := pz_cls_tab sd k hk h
    exact ⟨pz_j sd k, h1, h2⟩
  · have e : pz_cls k = 99 := by
      unfold pz_cls
      rw [List.getD_eq_getElem?_getD, List.getElem?_eq_none (by show 133 ≤ k; omega)]
      rfl
    rw [e] at h
    cases sd <;> cases h
theorem pz_ws_at {sd : Bool} {cI cB : ClassId} {ad : Nat → Nat} {M : pz_M} {j : Nat} (h : j < pz_K sd) : (pz_ws sd cI cB ad M)[j]? = some (ad (pz_b sd j), pz_cell cI cB ad M (pz_b sd j)) := by
  unfold pz_ws
  rw [List.getElem?_map, List.getElem?_range h]
  rfl
theorem pz_ws_inv {sd : Bool} {cI cB : ClassId} {ad : Nat → Nat} {M : pz_M} {j : Nat} {q : Nat × va_E} (h : (pz_ws sd cI cB ad M)[j]? = some q) : j < pz_K sd ∧ q = (ad (pz_b sd j), pz_cell cI cB ad M (pz_b sd j)) := by
  have hl := (List.getElem?_eq_some_iff.mp h).1
  unfold pz_ws at hl
  rw [List.length_map, List.length_range] at hl
  rw [pz_ws_at hl] at h
  exact ⟨hl, (Option.some.inj h).symm⟩
theorem pz_ws_D {sd : Bool} {cI cB : ClassId} {ad : Nat → Nat} (hi : pz_inj sd ad) (M : pz_M) : va_D (pz_Ar sd ad) (pz_ws sd cI cB ad M) := by
  refine ⟨fun i j p q hp hq e => ?_, fun k q hq => ?_⟩
  · obtain ⟨h1, rfl⟩ := pz_ws_inv hp
    obtain ⟨h2, rfl⟩ := pz_ws_inv hq
    exact hi i j h1 h2 e
  · obtain ⟨h1, rfl⟩ := pz_ws_inv hq
    exact ⟨k, h1, rfl⟩
/-- a world that differs in one cell -/
theorem pz_ws_set {sd : Bool} {cI cB : ClassId} {ad : Nat → Nat} {M M' : pz_M} {j : Nat} (hj : j < pz_K sd) (h : ∀ k, k ≠ pz_b sd j → M' k = M k) : (pz_ws sd cI cB ad M).set j (ad (pz_b sd j), pz_cell cI cB ad M' (pz_b sd j)) = pz_ws sd cI cB ad M' := by
  have hlen : ∀ N : pz_M, (pz_ws sd cI cB ad N).length = pz_K sd := fun N => by unfold pz_ws; rw [List.length_map, List.length_range]
  apply List.ext_getElem?
  intro i
  by_cases hi : i = j
  · subst hi
    rw [List.getElem?_set_self (by rw [hlen]; exact hj), pz_ws_at hj]
  · rw [List.getElem?_set_ne (Ne.symm hi)]
    by_cases hk : i < pz_K sd
    · rw [pz_ws_at hk, pz_ws_at hk]
      have e : M' (pz_b sd i) = M (pz_b sd i) := h _ (pz_b_inj hi)
      have e2 : pz_cell cI cB ad M' (pz_b sd i) = pz_cell cI cB ad M (pz_b sd i) := by
        unfold pz_cell pz_fv
        rw [e]
      rw [e2]
    · rw [List.getElem?_eq_none (by rw [hlen]; omega), List.getElem?_eq_none (by rw [hlen]; omega)]
def pz_wr (M : pz_M) (k i : Nat) (x : Int) : pz_M := fun c j => if c = k ∧ j = i then x else M c j
theorem pz_wr_ne {M : pz_M} {k i : Nat} {x : Int} {c : Nat} (h : c ≠ k) : pz_wr M k i x c = M c := by
  funext j
  unfold pz_wr
  rw [if_neg (fun z => h z.1)]
theorem pz_wr_in {M : pz_M} {k i : Nat} {x : Int} (hM : ∀ c j, pz_in (M c j)) (hx : pz_in x) : ∀ c j, pz_in (pz_wr M k i x c j) := by
  intro c j
  unfold pz_wr
  split
  · exact hx
  · exact hM c j
/-! words of the tables -/
def pz_good : Cond → Bool
  | .fieldLinkNest _ _ _ _ _ _ => true
  | .methodLinkNest _ _ _ _ => true
  | w => goodWord w
def pz_W (U : State) : Prop := ∀ w ∈ lw_tbl, pz_good w = true → w.before #[] U = true
theorem pz_good_cases {w : Cond} (h : pz_good w = true) : goodWord w = true ∨ (∃ a i b n d x, w = .fieldLinkNest a i b n d x) ∨ ∃ a i y x, w = .methodLinkNest a i y x := by
  cases w <;> first | exact Or.inl h | exact Or.inr (Or.inl ⟨_, _, _, _, _, _, rfl⟩) | exact Or.inr (Or.inr ⟨_, _, _, _, rfl⟩)
theorem pz_use {U : State} (h : pz_W U) {w : Cond} (hw : w ∈ lw_tbl) (hg : pz_good w = true) (args : Array Value) : w.before args U = true := by
  rcases pz_good_cases hg with h1 | ⟨a, i, b, n, d, x, rfl⟩ | ⟨a, i, y, x, rfl⟩
  · exact word_at (State.WarmedH.refl U) (good_of_word h1) (h w hw hg)
  · exact va_Nw.use rfl (h _ hw hg)
  · exact va_Nw.use rfl (h _ hw hg)
theorem pz_W.warm {s U : State} (hW : s.WarmedH U.vm) (h : pz_W s) : pz_W U := by
  intro w hw hg
  rcases pz_good_cases hg with h1 | ⟨a, i, b, n, d, x, rfl⟩ | ⟨a, i, y, x, rfl⟩
  · exact word_at hW (good_of_word h1) (h w hw hg)
  · exact va_Nw.warmF hW (h _ hw hg)
  · exact va_Nw.warmM hW (h _ hw hg)
theorem pz_W.same {s U : State} (hv : U.vm = s.vm) (h : pz_W s) : pz_W U := h.warm (by rw [hv]; exact State.WarmedH.refl s)
/-! constants that nobody writes -/
def pz_ords : List Int32 := [1, 1, 2, 6, 24, 120, 720, 5040]
def pz_sln : List Nat := [4, 10, 3, 3, 2]
def pz_sby : List (List Int32) := [[101, 107, 104, 120], [112, 99, 115, 118, 117, 100, 113, 114, 116, 119], [60, 62, 61], [42, 47, 37], [43, 45]]
def pz_six : List Nat := [16, 78, 69, 74, 76]
def pz_stx : List String := ["ekhx", "pcsvudqrtw", "<>=", "*/%", "+-"]
def pz_E (A : Nat → Prop) (ad : Nat → Nat) (U : State) (H : Heap) : Prop :=
  va_Z "PeacockDesk$Parties" "ORDERS" "[I" (.ref (ad 80)) A U H ∧ va_T .int (ad 80) 8 (fun j => .int (pz_ords.getD j 0)) A U H ∧ va_Z "java/lang/String" "COMPACT_STRINGS" "Z" (.int 1) A U H ∧ va_Zq "jdk/internal/util/Preconditions" "SIOOBE_FORMATTER" "Ljava/util/function/BiFunction;" A U H ∧ vk_S 5 pz_sln pz_sby (fun i => ad (81 + i)) (fun i => ad (86 + i)) A U H ∧ ∀ i, i < 5 → vk_R "PeacockDesk$LawReader" (pz_six.getD i 0) (pz_stx.getD i "") (ad (81 + i)) U
theorem pz_E.warm {A : Nat → Prop} {ad : Nat → Nat} {s U : State} {H : Heap} (hW : s.WarmedH U.vm) (h : pz_E A ad s H) : pz_E A ad U H :=
  ⟨va_Z.moved hW.alike h.1, va_T.moved hW.alike h.2.1, va_Z.moved hW.alike h.2.2.1, va_Zq.moved hW.alike h.2.2.2.1, vk_S.moved hW.alike h.2.2.2.2.1, fun i hi => vk_R.warm hW (h.2.2.2.2.2 i hi)⟩
theorem pz_E.kept {A : Nat → Prop} {ad : Nat → Nat} {U : State} {H H1 : Heap} (h : pz_E A ad U H) (hq : ∀ a : Nat, a < H.size → ¬ A a → H1[a]? = H[a]?) : pz_E A ad U H1 :=
  ⟨h.1.kept hq, h.2.1.kept hq, h.2.2.1.kept hq, h.2.2.2.1.kept hq, h.2.2.2.2.1.kept hq, h.2.2.2.2.2⟩
theorem pz_E.same {A : Nat → Prop} {ad : Nat → Nat} {s U : State} {H : Heap} (hv : U.vm = s.vm) (h : pz_E A ad s H) : pz_E A ad U H := h.warm (by rw [hv]; exact State.WarmedH.refl s)
/-! ===== what a method stands on; what a step keeps ===== -/
def pz_G (sd : Bool) (D : va_G) (cI cB : ClassId) (ad : Nat → Nat) (U : State) : Prop := pz_W U ∧ va_K D pz_CL [(cI, .int), (cB, .byte)] U ∧ pz_E (pz_Ar sd ad) ad U U.heap
theorem pz_G.to {sd : Bool} {D : va_G} {cI cB : ClassId} {ad : Nat → Nat} {s U : State} {locs : List Loc} (h : pz_G sd D cI cB ad s) (hW : s.WarmedH U.vm) (hS : va_S (pz_Ar sd ad) s.heap U.heap locs) : pz_G sd D cI cB ad U :=
  ⟨h.1.warm hW, va_K.moved hW.alike h.2.1, (h.2.2.kept hS.2.1).warm hW⟩
theorem pz_G.same {sd : Bool} {D : va_G} {cI cB : ClassId} {ad : Nat → Nat} {s U : State} (h : pz_G sd D cI cB ad s) (hv : U.vm = s.vm) (hh : U.heap = s.heap) : pz_G sd D cI cB ad U :=
  ⟨h.1.same hv, va_K.moved (by rw [hv]; exact Vm.Alike.refl s.vm) h.2.1, by rw [hh]; exact h.2.2.same hv⟩
def pz_rm (d : Nat) : Room := { frames := d, cells := 0, slots := 0, locals := 128 * d }
def pz_C (sd : Bool) (D : va_G) (cI cB : ClassId) (ad : Nat → Nat) (row : pz_Row) (d : Nat) (p : Program) (s : State) (m : MethodId) (meth : Method) (c : Code) : Prop :=
  p.tables.exec = Jvm.exec ∧ c.code = rw_c row ∧ c.maxLocals = rw_n row ∧ s.vm.findClass (rw_y row).cls = some m.cls ∧ meth.locks = false ∧ meth.sig.returnType = rw_t row ∧ 3 ≤ d ∧ pz_G sd D cI cB ad s ∧ pz_inj sd ad
def pz_L (ad : Nat → Nat) (nL : Nat) (als : List pz_V) (ls : Array Slot) : Prop := ls.size = nL ∧ als.length = nL ∧ lv_wf ls ∧ ∀ (i : Nat) (v : pz_V), als[i]? = some v → v ≠ pzN → ls[i]? = some (.val (pz_v ad v))
def pz_I (sd : Bool) (D : va_G) (cI cB : ClassId) (ad : Nat → Nat) (s : State) (nL : Nat) (als ast : List pz_V) (M : pz_M) (H : Heap) (locs : List Loc) (ls : Array Slot) : Prop :=
  pz_L ad nL als ls ∧ (∀ v ∈ als, pz_ok v) ∧ (∀ v ∈ ast, pz_ok v) ∧ (∀ k i, pz_in (M k i)) ∧ va_P D pz_CL (pz_ws sd cI cB ad M) H ∧ va_S (pz_Ar sd ad) s.heap H locs
def pz_Q (sd : Bool) (D : va_G) (cI cB : ClassId) (ad : Nat → Nat) (r : pz_A) : Array Value → State → Outcome → State → Prop := fun _ st oc t =>
  oc = .returned (r.1.map (pz_v ad)) ∧ va_P D pz_CL (pz_ws sd cI cB ad r.2) t.heap ∧ (∀ v, r.1 = some v → pz_ok v) ∧ (∀ k i, pz_in (r.2 k i)) ∧ va_F (pz_Ar sd ad) st t
def pz_P (sd : Bool) (D : va_G) (cI cB : ClassId) (ad : Nat → Nat) (av : List pz_V) (M : pz_M) : Array Value → State → Prop := fun v U =>
  v = (av.map (pz_v ad)).toArray ∧ va_P D pz_CL (pz_ws sd cI cB ad M) U.heap ∧ pz_G sd D cI cB ad U
theorem pz_P_blind {sd : Bool} {D : va_G} {cI cB : ClassId} {ad : Nat → Nat} {av : List pz_V} {M : pz_M} : FrameBlind (pz_P sd D cI cB ad av M) := by
  intro a U g mk h
  exact ⟨h.1, h.2.1, h.2.2.same rfl rfl⟩
/-- one step of the abstract machine at a place is one of the machine's -/
def pz_OK (sd : Bool) (row : pz_Row) (pc : Nat) (f : pz_F) : Prop :=
  ∀ (D : va_G) (cI cB : ClassId) (ad : Nat → Nat) (d : Nat) (p : Program) (l : Launch) (e : Env) (s : State) (m : MethodId) (args : Array Value) (below : List Frame) (meth : Method) (c : Code), pz_C sd D cI cB ad row d p s m meth c →
  ∀ (als ast : List pz_V) (M : pz_M) (H : Heap) (locs : List Loc) (ls : Array Slot), pz_I sd D cI cB ad s (rw_n row) als ast M H locs ls →
  (∀ (pc' : Nat) (als' ast' : List pz_V) (M' : pz_M), f (pc, als, ast, M) = some (.inl (pc', als', ast', M')) → ∀ Q : State → Prop,
    (∀ (H' : Heap) (locs' : List Loc) (ls' : Array Slot), pz_I sd D cI cB ad s (rw_n row) als' ast' M' H' locs' ls' → W p l e (pz_rm d) s m args below meth c H' locs' 0 0 Q (F0 m pc' ls' (ast'.map (pz_v ad)))) →
    W p l e (pz_rm d) s m args below meth c H locs 0 0 Q (F0 m pc ls (ast.map (pz_v ad)))) ∧
  (∀ r : pz_A, f (pc, als, ast, M) = some (.inr r) → W p l e (pz_rm d) s m args below meth c H locs 0 0 (MQ below (pz_Q sd D cI cB ad r) args s 0 0 (pz_Ar sd ad)) (F0 m pc ls (ast.map (pz_v ad))))
/-- a call at a place -/
def pz_lnk (own : String) (idx : Nat) (y : MethodName) : Prop := Cond.methodLink own idx y ∈ lw_tbl ∨ ∃ host, Cond.methodLinkNest own idx y host ∈ lw_tbl
def pz_rowOK (row : pz_Row) : Prop := plainFor (rw_y row) = true ∧ Cond.code (rw_y row) (rw_c row) (rw_n row) (rw_t row) ∈ lw_tbl ∧ Cond.initialized (rw_y row).cls ∈ lw_tbl ∧ ((rw_y row).cls ≠ "java/lang/invoke/MethodHandle" ∧ (rw_y row).cls ≠ "java/lang/invoke/VarHandle")
def pz_np (y : MethodName) (n : Nat) : Prop := (parseMethodDescriptor y.desc).map (fun d => d.parameters.length) = some n
def pz_callOK (sd : Bool) (row row' : pz_Row) (pc na rc : Nat) : Prop := ∃ idx : Nat, pz_lnk (rw_y row).cls idx (rw_y row') ∧
  ((decode (rw_c row) pc = .ok (.invokestatic idx, 3) ∧ Cond.static (rw_y row') ∈ lw_tbl ∧ pz_np (rw_y row') na) ∨
   (decode (rw_c row) pc = .ok (.invokevirtual idx, 3) ∧ Cond.instanceMethod (rw_y row') ∈ lw_tbl ∧ Cond.selects (rw_y row').cls (rw_y row') (rw_y row') ∈ lw_tbl ∧ pz_np (rw_y row') (na - 1) ∧ 1 ≤ na ∧
     ((∃ T N, pz_CL[rc - 1]? = some ((rw_y row').cls, T, N) ∧ rc ≠ 0 ∧ pz_sid sd (rc - 1) = true) ∨ (rc = 25 ∧ (rw_y row').cls = "java/lang/String"))))
def pz_tabOK (sd : Bool) (T : List pz_Row) (js : Nat → Prop) : Prop := ∀ (mid : Nat) (row : pz_Row), js mid → T[mid]? = some row → pz_rowOK row ∧
  (∀ (pc : Nat) (f : pz_F), pz_look (rw_p row) pc = some (.inl f) → pz_OK sd row pc f) ∧
  (∀ (pc q na rc : Nat) (row' : pz_Row), pz_look (rw_p row) pc = some (.inr (q, na, rc)) → T[q]? = some row' → js q ∧ pz_callOK sd row row' pc na rc)
