/-! ===== making an object in another's constructor, or in the law ===== -/
theorem cn_join {A : Nat → Prop} {D : va_G} {cl : List vw_C} {ws w1 : va_W} {q : Nat} {x : va_E} {H H1 : Heap} (hP : va_P D cl (ws ++ [(q, x)]) H) (hD : va_D A (ws ++ [(q, x)])) (hk : ∀ a : Nat, a < H.size → ¬ va_A [(q, x)] H.size a → H1[a]? = H[a]?) (hF : ∀ a, va_A [(q, x)] H.size a → A a) (hP1 : va_P D cl w1 H1) (hD1 : va_D (va_A [(q, x)] H.size) w1) : va_P D cl (ws ++ w1) H1 ∧ va_D A (ws ++ w1) := by
  have hat : ∀ (k : Nat) (z : Nat × va_E), ws[k]? = some z → (ws ++ [(q, x)])[k]? = some z ∧ k < ws.length := fun k z h => by
    have hk := (List.getElem?_eq_some_iff.mp h).1
    exact ⟨by rw [List.getElem?_append_left hk]; exact h, hk⟩
  have hlast : (ws ++ [(q, x)])[ws.length]? = some (q, x) := by rw [List.getElem?_append_right (Nat.le_refl _), Nat.sub_self]; rfl
  have apart : ∀ (k : Nat) (z : Nat × va_E), ws[k]? = some z → z.1 < H.size ∧ ¬ va_A [(q, x)] H.size z.1 := by
    intro k z h
    obtain ⟨h1, h2⟩ := hat k z h
    have hl := (hP k z h1).lt
    refine ⟨hl, fun hz => ?_⟩
    rcases hz with ⟨k2, e, hz⟩ | hz
    · have h3 := (List.getElem?_eq_some_iff.mp hz).1
      have h4 : k2 = 0 := by simp only [List.length_cons, List.length_nil] at h3; omega
      subst h4
      have h5 : (q, x) = (z.1, e) := Option.some.inj hz
      have h6 : q = z.1 := congrArg Prod.fst h5
      have := hD.1 k ws.length z (q, x) h1 hlast h6.symm
      omega
    · omega
  refine ⟨va_P.app (fun k z hz => ?_) hP1, va_D.app ⟨fun i j y z hi hj e => hD.1 i j y z (hat i y hi).1 (hat j z hj).1 e, fun k z hz => hD.2 k z (hat k z hz).1⟩ (hD1.weaken (fun _ z _ h => hF z.1 h)) (fun i j y z hy hz e => ?_)⟩
  · obtain ⟨g1, g2⟩ := apart k z hz
    exact (hP k z (hat k z hz).1).kept (hk z.1 g1 g2)
  · exact (apart i y hy).2 (by rw [e]; exact hD1.2 j z hz)
theorem cn_F {A : Nat → Prop} {ws : va_W} {q : Nat} {x : va_E} {H0 H : Heap} {locs : List Loc} (hD : va_D A (ws ++ [(q, x)])) (hS : va_S A H0 H locs) (hA : ∀ q, H0.size ≤ q → A q) : ∀ a, va_A [(q, x)] H.size a → A a := by
  intro a h
  rcases h with ⟨k, e, h⟩ | h
  · have h3 := (List.getElem?_eq_some_iff.mp h).1
    have h4 : k = 0 := by simp only [List.length_cons, List.length_nil] at h3; omega
    subst h4
    have h5 : (q, x) = (a, e) := Option.some.inj h
    have h6 : q = a := congrArg Prod.fst h5
    rw [← h6]
    exact hD.2 ws.length (q, x) (by rw [List.getElem?_append_right (Nat.le_refl _), Nat.sub_self]; rfl)
  · exact hA a (Nat.le_trans hS.1 h)
section CNM
variable {p : Program} {l : Launch} {e : Env} {R : Room} {s : State} {m : MethodId} {args : Array Value} {below : List Frame} {meth : Method} {c : Code} {Q : State → Prop} {D : va_G} {cI cB : ClassId} {A : Nat → Prop} {cc : ByteArray} {own C : String} {T : u_T} {N ci : Nat} {H : Heap} {locs : List Loc} {cells slots pc idx : Nat} {ls : Array Slot} {rest : List Value} {ws : va_W} {dfs : List Value}
/-- new, dup -/
theorem cn_new (hx : p.tables.exec = Jvm.exec) (hb : c.code = cc) (hC : pz_clsOK ci C T N) (hown : s.vm.findClass own = some m.cls) (hW : pz_W s) (hK : va_K D pz_CL [(cI, .int), (cB, .byte)] s) (hP : va_P D pz_CL ws H) (hD : va_D A ws) (hS : va_S A s.heap H locs) (hA : ∀ q, s.heap.size ≤ q → A q) (hcl : Cond.classLink own idx C ∈ lw_tbl) (hinst : Cond.instantiable C N ∈ lw_tbl) (hini : Cond.initialized C ∈ lw_tbl)
    {ty : Nat → FieldType} (hty : ∀ k, k < N → parseFieldDescriptor (T k).2.2.1 = some (ty k)) (hfs : ∀ j, j < N → defaultValue (ty j) = vp_V dfs j) (hc : cells + 1 ≤ R.cells) (hs : slots + N ≤ R.slots) (d0 : decode cc pc = .ok (.new idx, 3)) (d1 : decode cc (pc + 3) = .ok (.dup, 1))
    (kk : ∀ (q : Nat) (H1 : Heap), va_P D pz_CL (ws ++ [(q, .inr (ci, dfs))]) H1 → va_D A (ws ++ [(q, .inr (ci, dfs))]) → va_S A s.heap H1 locs → W p l e R s m args below meth c H1 locs (cells + 1) (slots + N) Q (F0 m (pc + 3 + 1) ls (.ref q :: .ref q :: rest))) : W p l e R s m args below meth c H locs cells slots Q (F0 m pc ls rest) := by
  obtain ⟨k1, k2, k3, -, hnm, -⟩ := hC
  have hts : ∀ w ∈ u_ws C T N, w.before args s = true := fun w hw => pz_use hW (k3 w hw).1 (k3 w hw).2 args
  refine va_new hx hb hts (fun _ q => q) ty hty hown (pz_use hW hcl rfl args) (pz_use hW hinst rfl args) (pz_use hW hini rfl args) hK hP hD hS hA k1 hfs hc hs d0 (fun q H1 hP hD hS => ?_)
  exact lv_dup hx hb d1 rfl (kk q H1 hP hD hS)
theorem cn_call {nL nLy q : Nat} {y : MethodName} {bytes : ByteArray} {av : List Nat} {os : List (Nat × Nat × Nat)} (hx : p.tables.exec = Jvm.exec) (hb : c.code = cc) (hml : c.maxLocals = nL) (hls : ls.size = nL) (hown : s.vm.findClass own = some m.cls) (hW : pz_W s) (hK : va_K D pz_CL [(cI, .int), (cB, .byte)] s) (hA : ∀ q, s.heap.size ≤ q → A q)
    (hM : Met l y [Cond.code y bytes nLy none] (cn_rm os) (cn_P D cI cB q ci dfs av H.size) (cn_Q D cI cB q ci dfs av os H.size) (cn_c os) (cn_s os) (va_A [(q, .inr (ci, dfs))] H.size)) (hlnk : pz_lnk own idx y) (hcw : Cond.code y bytes nLy none ∈ lw_tbl) (hini : Cond.initialized y.cls ∈ lw_tbl) (hinst : Cond.instanceMethod y ∈ lw_tbl) (hyn : y.name = "<init>") (hmh : y.cls ≠ "java/lang/invoke/MethodHandle" ∧ y.cls ≠ "java/lang/invoke/VarHandle") (hnp : pz_np y av.length)
    (hfr : 2 ≤ R.frames) (hlo : 8 + (nLy + 11) + 12 ≤ R.locals) (hc : cells + cn_c os ≤ R.cells) (hs : slots + cn_s os ≤ R.slots) (hrest : (rest.map fun v => v.category).sum ≤ 8) (hP : va_P D pz_CL (ws ++ [(q, .inr (ci, dfs))]) H) (hD : va_D A (ws ++ [(q, .inr (ci, dfs))])) (hS : va_S A s.heap H locs) (hdg : decode cc pc = .ok (.invokespecial idx, 3))
    (kk : ∀ (q1 : Nat → Nat) (H1 : Heap) (locs1 : List Loc), va_P D pz_CL (ws ++ cn_w cI cB q ci dfs av os q1) H1 → va_D A (ws ++ cn_w cI cB q ci dfs av os q1) → va_S A s.heap H1 locs1 → W p l e R s m args below meth c H1 locs1 (cells + cn_c os) (slots + cn_s os) Q (F0 m (pc + 3) ls rest)) : W p l e R s m args below meth c H locs cells slots Q (F0 m pc ls ((av.map Value.ref).reverse ++ .ref q :: rest)) := by
  have hF := cn_F hD hS hA
  have hlast : (ws ++ [(q, (.inr (ci, dfs) : va_E))])[ws.length]? = some (q, .inr (ci, dfs)) := by rw [List.getElem?_append_right (Nat.le_refl _), Nat.sub_self]; rfl
  have hPc : va_P D pz_CL [(q, .inr (ci, dfs))] H := fun k z hz => by
    have h3 := (List.getElem?_eq_some_iff.mp hz).1
    have h4 : k = 0 := by simp only [List.length_cons, List.length_nil] at h3; omega
    subst h4
    cases hz
    exact hP _ _ hlast
  have hlen : ∀ sig, parseMethodDescriptor y.desc = some sig → av.length = sig.parameters.length := fun sig h => by
    unfold pz_np at hnp
    rw [h] at hnp
    exact (Option.some.inj hnp).symm
  have hws : ∀ w ∈ [Cond.code y bytes nLy none], ∀ (a' : Array Value) (U : State), s.WarmedH U.vm → w.before a' U = true := fun w hw a' U hWm => by
    rw [List.mem_singleton.mp hw]
    exact pz_use (hW.warm hWm) hcw rfl a'
  have hpre : ∀ U : State, U.heap = H → s.WarmedH U.vm → cn_P D cI cB q ci dfs av H.size (Value.ref q :: av.map Value.ref).toArray U := fun U hU hWm => ⟨rfl, by rw [hU], by rw [hU]; exact hPc, va_K.moved hWm.alike hK, hW.warm hWm⟩
  have hS0 : CallFix p m c cc nL s args [] own := ⟨hx, hb, hml, hown, fun w hw => by cases hw⟩
  have hcode := pz_use hW hcw rfl args
  have hini := pz_use hW hini rfl args
  have hinst := pz_use hW hinst rfl args
  have hsum : 2 * (F0 m pc ls ((av.map Value.ref).reverse ++ .ref q :: rest)).monitorRoom + (rest.map fun v => v.category).sum ≤ 8 := lv_room hrest
  have go : ∀ (u : Nat → Nat) (t : State) (H1 : Heap) (locs1 : List Loc), t.heap = H1 → s.vm.Alike t.vm → True → (va_P D pz_CL (cn_w cI cB q ci dfs av os u) t.heap ∧ va_D (va_A [(q, .inr (ci, dfs))] H.size) (cn_w cI cB q ci dfs av os u)) → H.size ≤ H1.size → (∀ a : Nat, a < H.size → ¬ va_A [(q, .inr (ci, dfs))] H.size a → H1[a]? = H[a]?) → va_S A s.heap H1 locs1 → W p l e R s m args below meth c H1 locs1 (cells + cn_c os) (slots + cn_s os) Q (F0 m (pc + 3) ls rest) := by
    intro u t H1 locs1 ht _ _ hB _ hk hS1
    rw [ht] at hB
    obtain ⟨j1, j2⟩ := cn_join hP hD hk hF hB.1 hB.2
    exact kk u H1 locs1 j1 j2 hS1
  rcases hlnk with hlk | ⟨host, hlk⟩
  · exact va_callv (va_runI (b := q) (As := av.map Value.ref) (rest := rest) hS0 hM ⟨⟨rfl, rfl, hfr, hlo, hws, List.mem_cons_self, hcode, hini, hmh, hlen, pz_use hW hlk rfl args⟩, hyn, hinst⟩ ⟨cn_P_blind, hpre⟩ rfl (by rw [List.length_map]) hls rfl hsum hdg ⟨hc, hs⟩) hS (fun a _ h => hF a h) hF go
  · exact va_callv (va_runIN (host := host) (b := q) (As := av.map Value.ref) (rest := rest) hS0 hM ⟨⟨⟨rfl, rfl, hfr, hlo, hws, List.mem_cons_self⟩, hcode, hini, hmh, hlen, pz_use hW hlk rfl args⟩, hyn, hinst⟩ ⟨cn_P_blind, hpre⟩ rfl (by rw [List.length_map]) hls rfl hsum hdg ⟨hc, hs⟩) hS (fun a _ h => hF a h) hF go
end CNM
