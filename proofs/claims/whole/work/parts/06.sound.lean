/-! ===== a run of the abstract machine is a run of the machine ===== -/
theorem pz_v_cat (ad : Nat → Nat) (v : pz_V) : (pz_v ad v).category = 1 := by
  rcases v with x | _ | k <;> rfl
theorem pz_lg_sl : ∀ (vs : List Value), (∀ v ∈ vs, v.category = 1) → (lg_sl vs).length = vs.length := by
  intro vs
  induction vs with
  | nil => intro _; rfl
  | cons v vs ih =>
    intro h
    have h1 : v.category = 1 := h v List.mem_cons_self
    have e : lg_sl (v :: vs) = .val v :: lg_sl vs := by simp [lg_sl, h1]
    rw [e, List.length_cons, List.length_cons, ih (fun w hw => h w (List.mem_cons_of_mem _ hw))]
theorem pz_args_mem : ∀ (vs : List Value) (i j : Nat) (v : Value), (∀ v ∈ vs, v.category = 1) → vs[j]? = some v → (i + j, v) ∈ lv_args i vs := by
  intro vs
  induction vs with
  | nil => intro i j v _ h; simp at h
  | cons w vs ih =>
    intro i j v hc h
    have h1 : w.category = 1 := hc w List.mem_cons_self
    have e : lv_args i (w :: vs) = (i, w) :: lv_args (i + 1) vs := by simp [lv_args, h1]
    rw [e]
    cases j with
    | zero =>
      simp at h
      subst h
      exact List.mem_cons_self
    | succ j =>
      rw [List.getElem?_cons_succ] at h
      have h2 := ih (i + 1) j v (fun w hw => hc w (List.mem_cons_of_mem _ hw)) h
      rw [show i + (j + 1) = i + 1 + j by omega]
      exact List.mem_cons_of_mem _ h2
theorem pz_map_cat {ad : Nat → Nat} {av : List pz_V} : ∀ v ∈ av.map (pz_v ad), v.category = 1 := by
  intro v hv
  obtain ⟨w, -, rfl⟩ := List.mem_map.mp hv
  exact pz_v_cat ad w
theorem pz_L_entry {ad : Nat → Nat} {n : Nat} {av : List pz_V} (hn : av.length ≤ n) : pz_L ad n (pz_ent n av) ((lg_sl (av.map (pz_v ad)) ++ List.replicate (n - (lg_sl (av.map (pz_v ad))).length) Slot.unset).toArray) := by
  have hl : (lg_sl (av.map (pz_v ad))).length = av.length := by rw [pz_lg_sl _ pz_map_cat, List.length_map]
  obtain ⟨h1, h2, h3⟩ := lv_entry (av.map (pz_v ad)) (n := n) (by rw [hl]; exact hn)
  refine ⟨h1, by unfold pz_ent; rw [List.length_append, List.length_replicate]; omega, h2, fun i v hv hne => ?_⟩
  unfold pz_ent at hv
  by_cases hi : i < av.length
  · rw [List.getElem?_append_left hi] at hv
    have := pz_args_mem (av.map (pz_v ad)) 0 i (pz_v ad v) pz_map_cat (by rw [List.getElem?_map, hv]; rfl)
    rw [Nat.zero_add] at this
    exact h3 _ this
  · rw [List.getElem?_append_right (by omega)] at hv
    exact absurd (List.eq_of_mem_replicate (List.mem_of_getElem? hv)) hne
section PZC
variable {p : Program} {l : Launch} {e : Env} {R : Room} {s : State} {m : MethodId} {args : Array Value} {below : List Frame} {meth : Method} {c : Code} {H : Heap} {locs : List Loc} {Q : State → Prop}
theorem pz_callo {sd : Bool} {D : va_G} {cI cB : ClassId} {ad : Nat → Nat} {r : pz_A} {a : Array Value} {pc : Nat} {ls : Array Slot} {st0 rest : List Value}
    (hr : va_Run p l e R s m args below meth c H locs 0 0 0 0 (F0 m pc ls st0) rest (pz_Q sd D cI cB ad r a) (pz_Ar sd ad)) (hS : va_S (pz_Ar sd ad) s.heap H locs)
    (kk : ∀ (H1 : Heap) (locs1 : List Loc), va_P D pz_CL (pz_ws sd cI cB ad r.2) H1 → (∀ v, r.1 = some v → pz_ok v) → (∀ k i, pz_in (r.2 k i)) → va_S (pz_Ar sd ad) s.heap H1 locs1 → W p l e R s m args below meth c H1 locs1 0 0 Q (F0 m (pc + 3) ls ((r.1.map (pz_v ad)).toList ++ rest))) : W p l e R s m args below meth c H locs 0 0 Q (F0 m pc ls st0) := by
  intro T hT X
  obtain ⟨v, st₀, t, T', L, h0, X', hL, e1, e2, ⟨hv, hP, hok, hin, hz, hk⟩, st⟩ := hr T hT X
  cases hv
  rw [h0] at hz hk
  obtain ⟨t2, a1, b1⟩ := kk T'.heap (locs ++ L) (by rw [e1]; exact hP) hok hin
    ⟨Nat.le_trans hS.1 (by rw [e1]; exact hz), fun q h1 h2 => by rw [e1, hk q (Nat.lt_of_lt_of_le h1 hS.1) h2]; exact hS.2.1 q h1 h2, fun q hq => by
      rcases List.mem_append.mp hq with h | h
      · exact hS.2.2 q h
      · exact hL q h⟩ T' rfl X'
  exact ⟨t2, st t2 a1, b1⟩
end PZC
theorem pz_ofW {l : Launch} {y : MethodName} {ws ws' : List Cond} {rm : Room} {Pc : Array Value → State → Prop} {Qc : Array Value → State → Outcome → State → Prop} {mc ms : Nat} {free : Addr → Prop} {cc : ByteArray} {maxL : Nat} {ret : Option FieldType}
    (hy : plainFor y = true) (hw : ws = Cond.code y cc maxL ret :: ws')
    (body : ∀ p e s m args below meth c s₁, BodyLoose p l y (headSpec ws rm) cc maxL ret e s m args below meth c s₁ → c.maxLocals = maxL → Pc args s →
      W p l e (headSpec ws rm).room s m args below meth c s.heap [] 0 0 (MQ below Qc args s mc ms free) (entryFrame m args maxL)) : Met l y ws rm Pc Qc mc ms free := by
  refine MetFree.of_bodySF (code := cc) (maxLocals := maxL) (ret := ret) hy ?_ ?_
  · intro args s m h hn
    obtain ⟨meth, c, h1, h2, h3, h4, h5, h6, -, -⟩ := Cond.code_spec hn (atoms_spec (ws := ws) h _ (by rw [hw]; exact List.mem_cons_self))
    exact ⟨meth, c, h1, h2, h3, h4, h5, h6⟩
  · intro p e s m args below meth c s₁ B hml hP _
    have hh0 : s₁.heap = s.heap := by rw [B.state]; rfl
    obtain ⟨t, a1, o, b1, b2, b3⟩ := body p e s m args below meth c s₁ B hml hP s₁ hh0 (Stand.of_body B)
    exact ⟨t, o, a1, b1, b2, ⟨b3.1, b3.2⟩⟩
theorem pz_good_code {y : MethodName} {b : ByteArray} {n : Nat} {t : Option FieldType} : pz_good (Cond.code y b n t) = true := rfl
theorem pz_sum {ad : Nat → Nat} : ∀ (st : List pz_V), ((st.map (pz_v ad)).map fun v => v.category).sum = st.length := by
  intro st
  induction st with
  | nil => rfl
  | cons v st ih => simp only [List.map_cons, List.sum_cons, pz_v_cat, ih, List.length_cons]; omega
/-- a stack whose lowest argument is a receiver -/
theorem pz_recv_split {st : List pz_V} {na k : Nat} (h1 : 1 ≤ na) (h2 : na ≤ st.length) (h3 : st[na - 1]? = some (pzR k)) : ∃ As : List pz_V, (st.take na).reverse = pzR k :: As ∧ As.length = na - 1 ∧ st = As.reverse ++ pzR k :: st.drop na := by
  have hl : (st.take na).length = na := by rw [List.length_take]; omega
  have e0 : (st.take na).reverse[0]? = some (pzR k) := by
    rw [List.getElem?_reverse (by omega), hl, List.getElem?_take_of_lt (by omega)]
    exact h3
  cases hA : (st.take na).reverse with
  | nil => rw [hA] at e0; simp at e0
  | cons w As =>
    rw [hA] at e0
    simp at e0
    subst e0
    refine ⟨As, rfl, ?_, ?_⟩
    · have := congrArg List.length hA
      rw [List.length_reverse, hl, List.length_cons] at this
      omega
    · have h4 : st.take na = As.reverse ++ [pzR k] := by
        have := congrArg List.reverse hA
        rw [List.reverse_reverse, List.reverse_cons] at this
        exact this
      have h5 := (List.take_append_drop na st).symm
      rw [h4, List.append_assoc] at h5
      exact h5
theorem pz_cls_str0 : ∀ k, k < 133 → pz_cls k = 24 → 81 ≤ k ∧ k < 86 := by decide +kernel
theorem pz_cls_out {k : Nat} (hk : ¬ k < 133) : pz_cls k = 99 := by
  unfold pz_cls
  rw [List.getD_eq_getElem?_getD, List.getElem?_eq_none (by show 133 ≤ k; omega)]
  rfl
theorem pz_cls_str {k : Nat} (h : pz_cls k = 24) : ∃ i, i < 5 ∧ k = 81 + i := by
  by_cases hk : k < 133
  · obtain ⟨h1, h2⟩ := pz_cls_str0 k hk h
    exact ⟨k - 81, by omega, by omega⟩
  · rw [pz_cls_out hk] at h; cases h
set_option maxHeartbeats 4000000 in
theorem pz_sound {sd : Bool} {T : List pz_Row} {js : Nat → Prop} (hT : pz_tabOK sd T js) : ∀ (n d mid : Nat) (row : pz_Row) (σ : pz_S) (r : pz_A), js mid → T[mid]? = some row → pz_exec T n d mid σ = some r →
    ∀ (D : va_G) (cI cB : ClassId) (ad : Nat → Nat) (p : Program) (l : Launch) (e : Env) (s : State) (m : MethodId) (args : Array Value) (below : List Frame) (meth : Method) (c : Code), pz_C sd D cI cB ad row d p s m meth c →
    ∀ (H : Heap) (locs : List Loc) (ls : Array Slot), pz_I sd D cI cB ad s (rw_n row) σ.2.1 σ.2.2.1 σ.2.2.2 H locs ls →
    W p l e (pz_rm d) s m args below meth c H locs 0 0 (MQ below (pz_Q sd D cI cB ad r) args s 0 0 (pz_Ar sd ad)) (F0 m σ.1 ls (σ.2.2.1.map (pz_v ad))) := by
  intro n
  induction n with
  | zero => intro d mid row σ r _ _ h; cases h
  | succ n ih =>
    intro d mid row σ r hj hrow hex D cI cB ad p l e s m args below meth c hC H locs ls hI
    obtain ⟨pc, als, ast, M⟩ := σ
    obtain ⟨hrok, hops, hcalls⟩ := hT mid row hj hrow
    have hex : pz_step T (pz_exec T n) d mid (pc, als, ast, M) = some r := hex
    unfold pz_step at hex
    rw [hrow, Option.bind_some] at hex
    obtain ⟨o, h2, hex⟩ := Option.bind_eq_some_iff.mp hex
    cases o with
    | inl f =>
      obtain ⟨z, h3, hex⟩ := Option.bind_eq_some_iff.mp hex
      have hok := hops pc f h2 D cI cB ad d p l e s m args below meth c hC als ast M H locs ls hI
      cases z with
      | inl σ' =>
        obtain ⟨pc', als', ast', M'⟩ := σ'
        exact hok.1 pc' als' ast' M' h3 _ (fun H' locs' ls' hI' => ih d mid row (pc', als', ast', M') r hj hrow hex D cI cB ad p l e s m args below meth c hC H' locs' ls' hI')
      | inr a =>
        cases hex
        exact hok.2 _ h3
    | inr q =>
      obtain ⟨q, na, rc⟩ := q
      obtain ⟨row', h3, hex⟩ := Option.bind_eq_some_iff.mp hex
      obtain ⟨hj', idx, hlnk, hkind⟩ := hcalls pc q na rc row' h2 h3
      cases hc : pz_cok row' d na rc ast with
      | false => simp only [hc, cond_false] at hex; cases hex
      | true =>
        simp only [hc, cond_true] at hex
        obtain ⟨a, h4, hex⟩ := Option.bind_eq_some_iff.mp hex
        have hex : pz_exec T n d mid (pc + 3, als, a.1.toList ++ ast.drop na, a.2) = some r := by
          cases hs : pz_shp (rw_t row') a.1 with
          | false => rw [hs] at hex; cases hex
          | true => rw [hs] at hex; exact hex
        unfold pz_cok at hc
        simp only [Bool.and_eq_true, Nat.beq_eq, Nat.ble_eq] at hc
        obtain ⟨c1, c2, c3, c4, c5, c6, c7, c8⟩ := hc
        obtain ⟨hL, hoA, hoS, hMi, hP, hS⟩ := hI
        obtain ⟨hx, hb, hml, hown, hlocks, hret, hd, hG, hinj⟩ := hC
        obtain ⟨hpl, hcw, hiw, hmh⟩ := (hT q row' hj' h3).1
        generalize hd' : pz_cd (rw_l row') d = d' at h4 c6 c7
        have havl : ((ast.take na).reverse).length = na := by rw [List.length_reverse, List.length_take]; omega
        have havo : ∀ v ∈ (ast.take na).reverse, pz_ok v := fun v hv => hoS v (List.mem_of_mem_take (List.mem_reverse.mp hv))
        have hM : Met l (rw_y row') [Cond.code (rw_y row') (rw_c row') (rw_n row') (rw_t row')] (pz_rm d') (pz_P sd D cI cB ad (ast.take na).reverse M) (pz_Q sd D cI cB ad a) 0 0 (pz_Ar sd ad) := by
          refine pz_ofW (cc := rw_c row') (maxL := rw_n row') (ret := rw_t row') hpl rfl ?_
          intro p e s m args below meth c s₁ B hml hv
          obtain ⟨rfl, hP, hG⟩ := hv
          rw [lg_entry_eq]
          refine ih d' q row' (0, pz_ent (rw_n row') (ast.take na).reverse, [], M) a hj' h3 h4 D cI cB ad p l e s m _ below meth c ⟨B.exec, B.bytes, hml, findClass_of_methodNamed B.named, B.notSynchronized, B.returns, c6, hG, hinj⟩ s.heap [] _ ⟨pz_L_entry (by rw [havl]; exact c4), ?_, fun v hv => (by cases hv), hMi, hP, va_S.rf⟩
          intro v hv
          rcases List.mem_append.mp hv with h | h
          · exact havo v h
          · rw [List.eq_of_mem_replicate h]; trivial
        have hsum : 2 * (F0 m pc ls (ast.map (pz_v ad))).monitorRoom + ((((ast.drop na).map (pz_v ad)).map fun v => v.category).sum) ≤ 8 := lv_room (by rw [pz_sum, List.length_drop]; exact c3)
        have hcb0 : (pz_rm d').cells = 0 ∧ (pz_rm d').slots = 0 ∧ (pz_rm d').frames + 1 ≤ (pz_rm d).frames ∧ 8 + (rw_n row' + 11) + (pz_rm d').locals ≤ (pz_rm d).locals ∧ (∀ w ∈ [Cond.code (rw_y row') (rw_c row') (rw_n row') (rw_t row')], ∀ (a' : Array Value) (U : State), s.WarmedH U.vm → w.before a' U = true) ∧ Cond.code (rw_y row') (rw_c row') (rw_n row') (rw_t row') ∈ [Cond.code (rw_y row') (rw_c row') (rw_n row') (rw_t row')] := by
          refine ⟨rfl, rfl, c7, ?_, fun w hw a' U hW => ?_, List.mem_cons_self⟩
          · show 8 + (rw_n row' + 11) + 128 * d' ≤ 128 * d
            omega
          · rw [List.mem_singleton.mp hw]
            exact pz_use (hG.1.warm hW) hcw rfl a'
        have hcode := pz_use hG.1 hcw rfl args
        have hini := pz_use hG.1 hiw rfl args
        have hpre : ∀ U : State, U.heap = H → s.WarmedH U.vm → pz_P sd D cI cB ad (ast.take na).reverse M ((ast.take na).reverse.map (pz_v ad)).toArray U := fun U hU hW => ⟨rfl, by rw [hU]; exact hP, hG.to hW (by rw [hU]; exact hS)⟩
        have go : ∀ (H1 : Heap) (locs1 : List Loc), va_P D pz_CL (pz_ws sd cI cB ad a.2) H1 → (∀ v, a.1 = some v → pz_ok v) → (∀ k i, pz_in (a.2 k i)) → va_S (pz_Ar sd ad) s.heap H1 locs1 → W p l e (pz_rm d) s m args below meth c H1 locs1 0 0 (MQ below (pz_Q sd D cI cB ad r) args s 0 0 (pz_Ar sd ad)) (F0 m (pc + 3) ls ((a.1.map (pz_v ad)).toList ++ (ast.drop na).map (pz_v ad))) := by
          intro H1 locs1 hP1 ho1 hi1 hS1
          have hst : (a.1.map (pz_v ad)).toList ++ (ast.drop na).map (pz_v ad) = (a.1.toList ++ ast.drop na).map (pz_v ad) := by
            rw [List.map_append]
            cases a.1 <;> rfl
          rw [hst]
          refine ih d mid row (pc + 3, als, a.1.toList ++ ast.drop na, a.2) r hj hrow hex D cI cB ad p l e s m args below meth c ⟨hx, hb, hml, hown, hlocks, hret, hd, hG, hinj⟩ H1 locs1 ls ⟨hL, hoA, ?_, hi1, hP1, hS1⟩
          intro v hv
          rcases List.mem_append.mp hv with h | h
          · exact ho1 v (Option.mem_toList.mp h)
          · exact hoS v (List.mem_of_mem_drop h)
        have hf : 0 + 0 ≤ (pz_rm d).cells ∧ 0 + 0 ≤ (pz_rm d).slots := ⟨Nat.zero_le _, Nat.zero_le _⟩
        have hS0 : CallFix p m c (rw_c row) (rw_n row) s args [] (rw_y row).cls := ⟨hx, hb, hml, hown, fun w hw => by cases hw⟩
        rcases hkind with ⟨hdg, hstat, hnp⟩ | ⟨hdg, hinst, hsel, hnp, hna, hcl⟩
        · have hlen : ∀ sig, parseMethodDescriptor (rw_y row').desc = some sig → na = sig.parameters.length := fun sig h => by
            unfold pz_np at hnp
            rw [h] at hnp
            exact (Option.some.inj hnp).symm
          have hstk : (F0 m pc ls (ast.map (pz_v ad))).stack = ((ast.take na).reverse.map (pz_v ad)).reverse ++ (ast.drop na).map (pz_v ad) := by
            show ast.map (pz_v ad) = _
            rw [← List.map_reverse, List.reverse_reverse, ← List.map_append, List.take_append_drop]
          rcases hlnk with hk | ⟨host, hk⟩
          · exact pz_callo (va_runS (As := (ast.take na).reverse.map (pz_v ad)) (rest := (ast.drop na).map (pz_v ad)) hS0 hM ⟨⟨hcb0.1, hcb0.2.1, hcb0.2.2.1, hcb0.2.2.2.1, hcb0.2.2.2.2.1, hcb0.2.2.2.2.2, hcode, hini, hmh, hlen, pz_use hG.1 hk rfl args⟩, pz_use hG.1 hstat rfl args⟩ ⟨pz_P_blind, hpre⟩ rfl (by rw [List.length_map, havl]) hL.1 hstk hsum hdg hf) hS go
          · exact pz_callo (va_runSN (host := host) (As := (ast.take na).reverse.map (pz_v ad)) (rest := (ast.drop na).map (pz_v ad)) hS0 hM ⟨⟨hcb0, hcode, hini, hmh, hlen, pz_use hG.1 hk rfl args⟩, pz_use hG.1 hstat rfl args, trivial⟩ ⟨pz_P_blind, hpre⟩ rfl (by rw [List.length_map, havl]) hL.1 hstk hsum hdg hf) hS go
        · have hrc : rc ≠ 0 := by
            rcases hcl with ⟨_, _, _, h, _⟩ | ⟨h, _⟩
            · exact h
            · omega
          have hk : ∃ k, ast[na - 1]? = some (pzR k) ∧ pz_cls k = rc - 1 := by
            unfold pz_rok at c8
            rw [Bool.or_eq_true] at c8
            rcases c8 with h | h
            · exact absurd (Nat.eq_of_beq_eq_true h) hrc
            · cases hg : ast[na - 1]? with
              | none => rw [hg] at h; cases h
              | some v =>
                rw [hg] at h
                rcases v with x | _ | k
                · cases h
                · cases h
                · exact ⟨k, rfl, Nat.eq_of_beq_eq_true h⟩
          obtain ⟨k, hk1, hk2⟩ := hk
          obtain ⟨As, hA1, hA2, hA3⟩ := pz_recv_split hna c2 hk1
          have hlen : ∀ sig, parseMethodDescriptor (rw_y row').desc = some sig → na - 1 = sig.parameters.length := fun sig h => by
            unfold pz_np at hnp
            rw [h] at hnp
            exact (Option.some.inj hnp).symm
          have hstk : (F0 m pc ls (ast.map (pz_v ad))).stack = (As.map (pz_v ad)).reverse ++ .ref (ad k) :: (ast.drop na).map (pz_v ad) := by
            show ast.map (pz_v ad) = _
            have := congrArg (List.map (pz_v ad)) hA3
            rw [List.map_append, List.map_cons, List.map_reverse] at this
            exact this
          have hcell : ∃ cellB : Cell, H[ad k]? = some cellB ∧ cellB.vm.isStatics = false ∧ s.vm.findClass (rw_y row').cls = some cellB.cls := by
            rcases hcl with ⟨T0, N0, hcl, -, hsid⟩ | ⟨hcl, hcn⟩
            · rw [← hk2] at hsid
              obtain ⟨j, hj1, hj2⟩ := pz_at hsid
              have hat := pz_ws_at (cI := cI) (cB := cB) (ad := ad) (M := M) hj1
              rw [hj2] at hat
              have hlt : rc - 1 < 12 := (List.getElem?_eq_some_iff.mp hcl).1
              have he : pz_cell cI cB ad M k = .inr (pz_cls k, (pz_fks.getD (pz_cls k) []).mapIdx (fun j fk => pz_fv ad M k j fk)) := by
                unfold pz_cell
                rw [if_neg (by omega), if_neg (by omega)]
              rw [he, hk2] at hat
              exact va_recv hG.2.1 hP hcl hat
            · rw [hcl] at hk2
              obtain ⟨i, hi, rfl⟩ := pz_cls_str hk2
              rw [hcn]
              exact vk_recv (adK := fun i => ad (81 + i)) (i := i) hG.2.2.2.2.2.2.1 hi hS
          rw [hA1] at hM hpre
          rcases hlnk with hk | ⟨host, hk⟩
          · exact pz_callo (va_runV (C := (rw_y row').cls) (b := ad k) (As := As.map (pz_v ad)) (rest := (ast.drop na).map (pz_v ad)) hS0 hM ⟨⟨hcb0.1, hcb0.2.1, hcb0.2.2.1, hcb0.2.2.2.1, hcb0.2.2.2.2.1, hcb0.2.2.2.2.2, hcode, hini, hmh, hlen, pz_use hG.1 hk rfl args⟩, pz_use hG.1 hinst rfl args, pz_use hG.1 hsel rfl args⟩ ⟨pz_P_blind, hcell, hpre⟩ rfl (by rw [List.length_map, hA2]) hL.1 hstk hsum hdg hf) hS go
          · exact pz_callo (va_runVN (C := (rw_y row').cls) (host := host) (b := ad k) (As := As.map (pz_v ad)) (rest := (ast.drop na).map (pz_v ad)) hS0 hM ⟨⟨hcb0, hcode, hini, hmh, hlen, pz_use hG.1 hk rfl args⟩, pz_use hG.1 hinst rfl args, pz_use hG.1 hsel rfl args⟩ ⟨pz_P_blind, hcell, hpre⟩ rfl (by rw [List.length_map, hA2]) hL.1 hstk hsum hdg hf) hS go
