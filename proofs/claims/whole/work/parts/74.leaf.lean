/-! ===== a constructor's contract ===== -/
def cn_w (cI cB : ClassId) (h0 ci : Nat) (dfs : List Value) (av : List Nat) (os : List (Nat × Nat × Nat)) (q : Nat → Nat) : va_W := (h0, .inr (ci, cn_fs av os dfs q)) :: cn_R cI cB os q
def cn_P (D : va_G) (cI cB : ClassId) (h0 ci : Nat) (dfs : List Value) (av : List Nat) (sz : Nat) : Array Value → State → Prop := fun v U =>
  v = (Value.ref h0 :: av.map Value.ref).toArray ∧ U.heap.size = sz ∧ va_P D pz_CL [(h0, .inr (ci, dfs))] U.heap ∧ va_K D pz_CL [(cI, .int), (cB, .byte)] U ∧ pz_W U
theorem cn_P_blind {D : va_G} {cI cB : ClassId} {h0 ci : Nat} {dfs : List Value} {av : List Nat} {sz : Nat} : FrameBlind (cn_P D cI cB h0 ci dfs av sz) := by
  intro a U g mk h
  exact ⟨h.1, h.2.1, h.2.2.1, va_K.moved (u := U) (U := U.calling g mk a) (Vm.Alike.refl U.vm) h.2.2.2.1, pz_W.same (s := U) (U := U.calling g mk a) rfl h.2.2.2.2⟩
def cn_Q (D : va_G) (cI cB : ClassId) (h0 ci : Nat) (dfs : List Value) (av : List Nat) (os : List (Nat × Nat × Nat)) (sz : Nat) : Array Value → State → Outcome → State → Prop :=
  va_Qv (S := Nat → Nat) (fun _ => True) (fun q t => va_P D pz_CL (cn_w cI cB h0 ci dfs av os q) t.heap ∧ va_D (va_A [(h0, .inr (ci, dfs))] sz) (cn_w cI cB h0 ci dfs av os q)) (va_A [(h0, .inr (ci, dfs))] sz)
theorem cn_one {h0 : Nat} {x : va_E} {sz : Nat} : va_D (va_A [(h0, x)] sz) [(h0, x)] := by
  refine ⟨fun i j p q hi hj _ => ?_, fun k q hk => va_A.in hk⟩
  have h1 := (List.getElem?_eq_some_iff.mp hi).1
  have h2 := (List.getElem?_eq_some_iff.mp hj).1
  simp only [List.length_cons, List.length_nil] at h1 h2
  omega
theorem cn_cat {h0 : Nat} {av : List Nat} : ∀ v ∈ (Value.ref h0 :: av.map Value.ref), v.category = 1 := by
  intro v hv
  rcases List.mem_cons.mp hv with h | h
  · rw [h]; rfl
  · obtain ⟨a, -, rfl⟩ := List.mem_map.mp h
    rfl
theorem cn_ent {h0 nL : Nat} {av : List Nat} (hn : av.length + 1 ≤ nL) {ls : Array Slot} (hls : (lg_sl (Value.ref h0 :: av.map Value.ref) ++ List.replicate (nL - (lg_sl (Value.ref h0 :: av.map Value.ref)).length) Slot.unset).toArray = ls) :
    ls.size = nL ∧ ls[0]? = some (.val (.ref h0)) ∧ ∀ n, n < av.length → ls[n + 1]? = some (.val (.ref (av.getD n 0))) := by
  have hlen : (lg_sl (Value.ref h0 :: av.map Value.ref)).length = av.length + 1 := by rw [pz_lg_sl _ cn_cat, List.length_cons, List.length_map]
  obtain ⟨h1, h2, h3⟩ := lv_entry (Value.ref h0 :: av.map Value.ref) (n := nL) (by rw [hlen]; exact hn)
  rw [hls] at h1 h3
  refine ⟨h1, ?_, fun n hn => ?_⟩
  · have := pz_args_mem (Value.ref h0 :: av.map Value.ref) 0 0 (.ref h0) cn_cat rfl
    exact h3 _ this
  · have := pz_args_mem (Value.ref h0 :: av.map Value.ref) 0 (n + 1) (.ref (av.getD n 0)) cn_cat (by
      rw [List.getElem?_cons_succ, List.getElem?_map, List.getD_eq_getElem?_getD, List.getElem?_eq_getElem hn]
      rfl)
    rw [Nat.zero_add] at this
    exact h3 _ this
def cn_rm (os : List (Nat × Nat × Nat)) : Room := { frames := 1, cells := cn_c os, slots := cn_s os, locals := 12 }
theorem cn_objW : Cond.methodLink "PeacockDesk" 1 Lib.objectInit ∈ lw_tbl := pz_tb (List.mem_of_getElem? (i := 27) (by decide +kernel))
theorem cn_objI : Cond.instanceMethod Lib.objectInit ∈ lw_tbl := pz_tb (List.mem_of_getElem? (i := 28) (by decide +kernel))
theorem cn_objC : Cond.code Lib.objectInit ⟨#[0xb1]⟩ 1 none ∈ lw_tbl := pz_tb (List.mem_of_getElem? (i := 29) (by decide +kernel))
/-- a leaf: Object's constructor, then its fields, then the end -/
theorem cn_leaf (l : Launch) (D : va_G) (cI cB : ClassId) (h0 sz : Nat) (av : List Nat) {y : MethodName} {cc : ByteArray} {C : String} {T : u_T} {N ci nL oi pe : Nat} {dfs : List Value} {os : List (Nat × Nat × Nat)} (hy : plainFor y = true) (hyc : y.cls = C) (hyn : y.name = "<init>") (hC : pz_clsOK ci C T N) (ho : Cond.methodLink C oi Lib.objectInit ∈ lw_tbl)
    (d0 : decode cc 0 = .ok (.aload_n 0, 1)) (d1 : decode cc 1 = .ok (.invokespecial oi, 3)) (hok : cn_ok cc av.length C T N os 4 pe) (dr : decode cc pe = .ok (.return_, 1)) (hn : av.length + 1 ≤ nL) (hl : dfs.length = N) :
    Met l y [Cond.code y cc nL none] (cn_rm os) (cn_P D cI cB h0 ci dfs av sz) (cn_Q D cI cB h0 ci dfs av os sz) (cn_c os) (cn_s os) (va_A [(h0, .inr (ci, dfs))] sz) := by
  refine pz_ofW (cc := cc) (maxL := nL) (ret := none) hy rfl ?_
  intro p e s m args below meth c s₁ B hml hv
  obtain ⟨rfl, hsz, hP, hK, hW⟩ := hv
  have hx := B.exec
  have hb := B.bytes
  have hr := B.returns
  have hown : s.vm.findClass C = some m.cls := by rw [← hyc]; exact findClass_of_methodNamed B.named
  have hlocks := B.notSynchronized
  have hin : meth.name = "<init>" := by rw [← hyn]; exact (name_of_methodNamed B.named B.method).1
  subst hsz
  have hD := cn_one (h0 := h0) (x := .inr (ci, dfs)) (sz := s.heap.size)
  have hA : ∀ q : Nat, s.heap.size ≤ q → va_A [(h0, .inr (ci, dfs))] s.heap.size q := fun q h => Or.inr h
  rw [lg_entry_eq]
  generalize hls : (lg_sl (Value.ref h0 :: av.map Value.ref) ++ List.replicate (nL - (lg_sl (Value.ref h0 :: av.map Value.ref)).length) Slot.unset).toArray = ls
  obtain ⟨e1, e2, e3⟩ := cn_ent hn hls
  refine lv_aload_n hx hb d0 rfl e2 ?_
  refine W.objInit hx hb hown (pz_use hW ho rfl _) (pz_use hW cn_objI rfl _) (pz_use hW cn_objC rfl _) rfl (by rw [hml]; exact e1) rfl d1 (Nat.le_refl 1) (show 2 * (F0 m 1 ls [.ref h0]).monitorRoom + 0 + 12 ≤ 12 from Nat.le_refl 12) ?_
  refine W.eq (g2 := F0 m 4 ls []) rfl ?_
  refine cn_run (av := av) hx hb hC hown hin hW hK hA e2 e3 os 4 pe dfs [] s.heap [] 0 0 hok hl hP hD va_S.rf (show 0 + cn_c os ≤ cn_c os by omega) (show 0 + cn_s os ≤ cn_s os by omega) (fun q H1 locs1 hP hD hS => ?_)
  rw [Nat.zero_add, Nat.zero_add]
  exact W.vret hx hb hr (fun t ht hW => ⟨⟨q, rfl, trivial, by rw [ht]; exact hP, hD⟩, hS.F ht⟩) hS.2.2 dr
