/-! ===== the law's own frame: arguments off the script, a call of either side ===== -/
def lz_val (xs : Nat → Int32) (i : Nat) (z : Nat × Nat) : Int := if z.1 = 0 then (xs (i + z.2)).toInt else if xs (i + z.2) = 0 then 0 else 1
def lz_as (xs : Nat → Int32) (i : Nat) (ks : List (Nat × Nat)) : List pz_V := ks.map (fun z => pzI (lz_val xs i z))
theorem lz_as_ok {xs : Nat → Int32} {i : Nat} {ks : List (Nat × Nat)} : ∀ v ∈ lz_as xs i ks, pz_ok v := by
  intro v hv
  obtain ⟨z, -, rfl⟩ := List.mem_map.mp hv
  show pz_in (lz_val xs i z)
  unfold lz_val
  split
  · exact pz_in_toInt _
  · split
    · exact pz_in0
    · exact pz_in1
def lz_ok (cc : ByteArray) : List (Nat × Nat) → Nat → Nat → Prop
  | [], pc, pe => pc = pe
  | (0, k) :: ks, pc, pe => k ≤ 5 ∧ decode cc pc = .ok (.aload_n 0, 1) ∧ decode cc (pc + 1) = .ok (.iload_n 3, 1) ∧ decode cc (pc + 2) = .ok (.iconst (k : Int), 1) ∧ decode cc (pc + 3) = .ok (.iadd, 1) ∧ decode cc (pc + 4) = .ok (.iaload, 1) ∧ lz_ok cc ks (pc + 5) pe
  | (_ + 1, k) :: ks, pc, pe => k ≤ 5 ∧ decode cc pc = .ok (.aload_n 0, 1) ∧ decode cc (pc + 1) = .ok (.iload_n 3, 1) ∧ decode cc (pc + 2) = .ok (.iconst (k : Int), 1) ∧ decode cc (pc + 3) = .ok (.iadd, 1) ∧ decode cc (pc + 4) = .ok (.iaload, 1) ∧ decode cc (pc + 5) = .ok (.ifCond .eq 7, 3) ∧ decode cc (pc + 8) = .ok (.iconst 1, 1) ∧ decode cc (pc + 9) = .ok (.goto 4, 3) ∧ decode cc (pc + 12) = .ok (.iconst 0, 1) ∧ lz_ok cc ks (pc + 13) pe
theorem lz_sum (i k : Nat) : Int32.ofNat i + Int32.ofInt (k : Int) = Int32.ofNat (i + k) := by
  rw [show Int32.ofInt (k : Int) = Int32.ofNat k from Int32.ofInt_eq_ofNat .., Int32.ofNat_add]
section LZ
variable {p : Program} {l : Launch} {e : Env} {R : Room} {s : State} {m : MethodId} {args : Array Value} {below : List Frame} {meth : Method} {c : Code} {Q : State → Prop} {D : va_G} {cI cB : ClassId} {ad : Nat → Nat} {cc : ByteArray} {locs : List Loc} {H : Heap} {cells slots : Nat} {ls : Array Slot} {A : Nat → Prop} {b L i : Nat} {xs : Nat → Int32}
theorem lz_args (hx : p.tables.exec = Jvm.exec) (hb : c.code = cc) (hX : va_X b L xs s s.heap) (hbl : b < s.heap.size) (hbA : ¬ A b) (hS : va_S A s.heap H locs) (hi : i + 6 ≤ L) (hL : L ≤ 3072) (h0 : ls[0]? = some (.val (.ref b))) (h3 : ls[3]? = some (.val (.int (Int32.ofNat i)))) :
    ∀ (ks : List (Nat × Nat)) (pc pe : Nat) (rest : List Value), lz_ok cc ks pc pe → W p l e R s m args below meth c H locs cells slots Q (F0 m pe ls (((lz_as xs i ks).map (pz_v ad)).reverse ++ rest)) → W p l e R s m args below meth c H locs cells slots Q (F0 m pc ls rest) := by
  intro ks
  induction ks with
  | nil =>
    intro pc pe rest hok kk
    have hok : pc = pe := hok
    subst hok
    exact kk
  | cons z ks ih =>
    obtain ⟨kd, k⟩ := z
    intro pc pe rest hok kk
    have hidx : ∀ k, k ≤ 5 → vp_in (Int32.ofNat (i + k)) L ∧ (Int32.ofNat (i + k)).toNatClampNeg = i + k := fun k hk => by
      have h1 : (Int32.ofNat (i + k)).toNatClampNeg = i + k := nI_clamp (n := i + k) (by omega)
      have h2 : (Int32.ofNat (i + k)).toInt = ((i + k : Nat) : Int) := nI_toInt (n := i + k) (by omega)
      refine ⟨?_, h1⟩
      unfold vp_in
      rw [h1]
      intro hz
      rcases hz with hz | hz
      · rw [Int32.lt_iff_toInt_lt, h2] at hz
        have : (0 : Int32).toInt = 0 := rfl
        omega
      · omega
    match kd, hok, kk with
    | 0, hok, kk =>
      obtain ⟨hk, d0, d1, d2, d3, d4, hok⟩ := hok
      refine lv_aload_n hx hb d0 rfl h0 ?_
      refine lv_iload_n hx hb d1 rfl h3 ?_
      refine lv_iconst hx hb d2 rfl ?_
      refine lv_iadd hx hb d3 ?_
      rw [lz_sum]
      refine va_sld hx hb hX hbl hbA hS (hidx k hk).1 d4 ?_
      rw [(hidx k hk).2]
      refine ih (pc + 5) pe (.int (xs (i + k)) :: rest) hok ?_
      have ev : pz_v ad (pzI (lz_val xs i (0, k))) = .int (xs (i + k)) := by
        show pz_v ad (pzI (xs (i + k)).toInt) = _
        exact pz_v_toInt ad _
      have es : ((lz_as xs i ((0, k) :: ks)).map (pz_v ad)).reverse ++ rest = ((lz_as xs i ks).map (pz_v ad)).reverse ++ (.int (xs (i + k)) :: rest) := by
        show (pz_v ad (pzI (lz_val xs i (0, k))) :: (lz_as xs i ks).map (pz_v ad)).reverse ++ rest = _
        rw [ev, List.reverse_cons, List.append_assoc]
        rfl
      rw [es] at kk
      exact kk
    | kd + 1, hok, kk =>
      obtain ⟨hk, d0, d1, d2, d3, d4, d5, d6, d7, d8, hok⟩ := hok
      refine lv_aload_n hx hb d0 rfl h0 ?_
      refine lv_iload_n hx hb d1 rfl h3 ?_
      refine lv_iconst hx hb d2 rfl ?_
      refine lv_iadd hx hb d3 ?_
      rw [lz_sum]
      refine va_sld hx hb hX hbl hbA hS (hidx k hk).1 d4 ?_
      rw [(hidx k hk).2]
      have es : ∀ v : Int32, pz_v ad (pzI (lz_val xs i (kd + 1, k))) = .int v → ((lz_as xs i ((kd + 1, k) :: ks)).map (pz_v ad)).reverse ++ rest = ((lz_as xs i ks).map (pz_v ad)).reverse ++ (.int v :: rest) := fun v ev => by
        show (pz_v ad (pzI (lz_val xs i (kd + 1, k))) :: (lz_as xs i ks).map (pz_v ad)).reverse ++ rest = _
        rw [ev, List.reverse_cons, List.append_assoc]
        rfl
      refine lv_if_eq (tgt := pc + 12) hx hb d5 (by omega) (fun hz => ?_) (fun hz => ?_)
      · refine lv_iconst (v := 0) hx hb d8 rfl ?_
        rw [es 0 (by unfold lz_val; rw [if_neg (by simp), if_pos hz]; rfl)] at kk
        exact ih (pc + 13) pe (.int 0 :: rest) hok kk
      · refine lv_iconst (v := 1) hx hb d6 rfl ?_
        refine lv_goto (tgt := pc + 13) hx hb d7 (by omega) ?_
        rw [es 1 (by unfold lz_val; rw [if_neg (by simp), if_neg hz]; rfl)] at kk
        exact ih (pc + 13) pe (.int 1 :: rest) hok kk
/-- a call of a method of either side -/
theorem lz_call {sd : Bool} {js : Nat → Prop} (hT : pz_tabOK sd pz_T js) {n d mid pc idx k nL : Nat} {own : String} {row : pz_Row} {As : List pz_V} {M : pz_M} {r : pz_A} {rest : List Value} (hj : js mid) (hrow : pz_T[mid]? = some row) (hex : pz_exec pz_T n d mid (0, pz_ent (rw_n row) (pzR k :: As), [], M) = some r) (hd : 3 ≤ d) (hfr : d + 1 ≤ R.frames) (hlo : 8 + (rw_n row + 11) + 128 * d ≤ R.locals) (hn : As.length + 1 ≤ rw_n row) (hoA : ∀ v ∈ As, pz_ok v)
    (hx : p.tables.exec = Jvm.exec) (hb : c.code = cc) (hml : c.maxLocals = nL) (hls : ls.size = nL) (hown : s.vm.findClass own = some m.cls) (hW : pz_W s) (hG : ∀ U : State, U.heap = H → s.WarmedH U.vm → pz_G sd D cI cB ad U) (hinj : pz_inj sd ad) (hMi : ∀ k i, pz_in (M k i)) (hP : va_P D pz_CL (pz_ws sd cI cB ad M) H)
    (hcell : ∃ cellB : Cell, H[ad k]? = some cellB ∧ cellB.vm.isStatics = false ∧ s.vm.findClass (rw_y row).cls = some cellB.cls) (hlnk : Cond.methodLink own idx (rw_y row) ∈ lw_tbl) (hinst : Cond.instanceMethod (rw_y row) ∈ lw_tbl) (hsel : Cond.selects (rw_y row).cls (rw_y row) (rw_y row) ∈ lw_tbl) (hnp : pz_np (rw_y row) As.length) (hdg : decode cc pc = .ok (.invokevirtual idx, 3)) (hrest : (rest.map fun v => v.category).sum ≤ 8) (hS : va_S A s.heap H locs) (hAr : ∀ q, pz_Ar sd ad q → A q) (hc : cells ≤ R.cells ∧ slots ≤ R.slots)
    (kk : ∀ (H1 : Heap) (locs1 : List Loc), va_P D pz_CL (pz_ws sd cI cB ad r.2) H1 → (∀ v, r.1 = some v → pz_ok v) → (∀ k i, pz_in (r.2 k i)) → va_S A s.heap H1 locs1 → (∀ q : Nat, q < H.size → ¬ pz_Ar sd ad q → H1[q]? = H[q]?) → W p l e R s m args below meth c H1 locs1 cells slots Q (F0 m (pc + 3) ls ((r.1.map (pz_v ad)).toList ++ rest))) :
    W p l e R s m args below meth c H locs cells slots Q (F0 m pc ls ((As.map (pz_v ad)).reverse ++ .ref (ad k) :: rest)) := by
  obtain ⟨hpl, hcw, hiw, hmh⟩ := (hT mid row hj hrow).1
  have hM : Met l (rw_y row) [Cond.code (rw_y row) (rw_c row) (rw_n row) (rw_t row)] (pz_rm d) (pz_P sd D cI cB ad (pzR k :: As) M) (pz_Q sd D cI cB ad r) 0 0 (pz_Ar sd ad) := by
    refine pz_ofW (cc := rw_c row) (maxL := rw_n row) (ret := rw_t row) hpl rfl ?_
    intro p e s m args below meth c s₁ B hml hv
    obtain ⟨rfl, hP, hG⟩ := hv
    rw [lg_entry_eq]
    refine pz_sound hT n d mid row (0, pz_ent (rw_n row) (pzR k :: As), [], M) r hj hrow hex D cI cB ad p l e s m _ below meth c ⟨B.exec, B.bytes, hml, findClass_of_methodNamed B.named, B.notSynchronized, B.returns, hd, hG, hinj⟩ s.heap [] _ ⟨pz_L_entry (by rw [List.length_cons]; exact hn), ?_, fun v hv => (by cases hv), hMi, hP, va_S.rf⟩
    intro v hv
    rcases List.mem_append.mp hv with h | h
    · rcases List.mem_cons.mp h with h | h
      · rw [h]; trivial
      · exact hoA v h
    · rw [List.eq_of_mem_replicate h]; trivial
  have hws : ∀ w ∈ [Cond.code (rw_y row) (rw_c row) (rw_n row) (rw_t row)], ∀ (a' : Array Value) (U : State), s.WarmedH U.vm → w.before a' U = true := fun w hw a' U hWm => by
    rw [List.mem_singleton.mp hw]
    exact pz_use (hW.warm hWm) hcw rfl a'
  have hpre : ∀ U : State, U.heap = H → s.WarmedH U.vm → pz_P sd D cI cB ad (pzR k :: As) M (Value.ref (ad k) :: As.map (pz_v ad)).toArray U := fun U hU hWm => ⟨rfl, by rw [hU]; exact hP, hG U hU hWm⟩
  have hlen : ∀ sig, parseMethodDescriptor (rw_y row).desc = some sig → As.length = sig.parameters.length := fun sig h => by
    unfold pz_np at hnp
    rw [h] at hnp
    exact (Option.some.inj hnp).symm
  have hS0 : CallFix p m c cc nL s args [] own := ⟨hx, hb, hml, hown, fun w hw => by cases hw⟩
  have hrun := va_runV (p := p) (l := l) (e := e) (R := R) (s := s) (m := m) (args := args) (below := below) (meth := meth) (c := c) (H := H) (locs := locs) (cells := cells) (slots := slots) (C := (rw_y row).cls) (b := ad k) (As := As.map (pz_v ad)) (rest := rest) (g := F0 m pc ls ((As.map (pz_v ad)).reverse ++ .ref (ad k) :: rest)) hS0 hM ⟨⟨rfl, rfl, hfr, hlo, hws, List.mem_cons_self, pz_use hW hcw rfl args, pz_use hW hiw rfl args, hmh, hlen, pz_use hW hlnk rfl args⟩, pz_use hW hinst rfl args, pz_use hW hsel rfl args⟩ ⟨pz_P_blind, hcell, hpre⟩ rfl (by rw [List.length_map]) hls rfl (lv_room hrest) hdg hc
  intro T hTh X
  obtain ⟨v, st₀, t, T', Lo, h0, X', hLo, e1, e2, ⟨hv, hP1, hok, hin, hz, hk⟩, st⟩ := hrun T hTh X
  cases hv
  rw [h0] at hz hk
  obtain ⟨t2, a1, b1⟩ := kk T'.heap (locs ++ Lo) (by rw [e1]; exact hP1) hok hin
    ⟨Nat.le_trans hS.1 (by rw [e1]; exact hz), fun q h1 h2 => by rw [e1, hk q (Nat.lt_of_lt_of_le h1 hS.1) (fun z => h2 (hAr q z))]; exact hS.2.1 q h1 h2, fun q hq => by
      rcases List.mem_append.mp hq with h | h
      · exact hS.2.2 q h
      · exact hAr _ (hLo q h)⟩ (fun q h1 h2 => by rw [e1]; exact hk q h1 h2) T' rfl X'
  exact ⟨t2, st t2 a1, b1⟩
end LZ
