/-! ===== steps: copies of rows, constants ===== -/
def pz_cpy (M : pz_M) (k0 k1 sp dp n : Nat) : pz_M := fun c i => if c = k1 ∧ dp ≤ i ∧ i < dp + n then M k0 (sp + (i - dp)) else M c i
def op_copy (a nx : Nat) : pz_F := fun σ => match σ.2.2.1 with
  | .inl n :: .inl dp :: .inr (some k1) :: .inl sp :: .inr (some k0) :: st => bif Nat.beq (pz_cls k0) a && (Nat.beq (pz_cls k1) a && (decide (0 ≤ sp) && (decide (0 ≤ dp) && (decide (0 ≤ n) && (decide (sp + n ≤ pz_len k0) && (decide (dp + n ≤ pz_len k1) && Nat.ble st.length 8)))))) then some (.inl (nx, σ.2.1, st, pz_cpy σ.2.2.2 k0 k1 sp.toNat dp.toNat n.toNat)) else none
  | _ => none
theorem pz_cpy_ne {M : pz_M} {k0 k1 sp dp n c : Nat} (h : c ≠ k1) : pz_cpy M k0 k1 sp dp n c = M c := by
  funext j
  unfold pz_cpy
  rw [if_neg (fun z => h z.1)]
theorem pz_cpy_in {M : pz_M} {k0 k1 sp dp n : Nat} (hM : ∀ c j, pz_in (M c j)) : ∀ c j, pz_in (pz_cpy M k0 k1 sp dp n c j) := by
  intro c j
  unfold pz_cpy
  split
  · exact hM _ _
  · exact hM c j
theorem pz_cpy_eq {M : pz_M} {k0 k1 sp dp n : Nat} : va_cpy (fun i => Int32.ofInt (M k0 i)) (fun i => Int32.ofInt (M k1 i)) sp dp n = fun i => Int32.ofInt (pz_cpy M k0 k1 sp dp n k1 i) := by
  funext i
  unfold va_cpy pz_cpy
  by_cases h : dp ≤ i ∧ i < dp + n
  · rw [if_pos h, if_pos ⟨rfl, h⟩]
  · rw [if_neg h, if_neg (fun z => h z.2)]
section PZX
variable {sd : Bool} {row : pz_Row} {pc a idx : Nat}
theorem ok_copy (h : decode (rw_c row) pc = .ok (.invokestatic idx, 3)) (hs : pz_sid sd a = true) (ha : 20 ≤ a ∧ a ≤ 21) (hw1 : Cond.methodLink (rw_y row).cls idx arraycopyName ∈ lw_tbl) (hw2 : Cond.native arraycopyName ∈ lw_tbl) (hw3 : Cond.static arraycopyName ∈ lw_tbl) (hw4 : Cond.initialized "java/lang/System" ∈ lw_tbl) : pz_OK sd row pc (op_copy a (pc + 3)) := by
  intro D cI cB ad d p l e s m args below meth cd hCx als ast M H locs ls hI
  obtain ⟨hx, hb, hml, hown, hlocks, hret, hd, hG, hinj⟩ := hCx
  obtain ⟨hL, hoA, hoS, hMi, hP, hS⟩ := hI
  unfold op_copy
  dsimp only
  split
  · rename_i n dp k1 sp k0 st
    cases hck : Nat.beq (pz_cls k0) a && (Nat.beq (pz_cls k1) a && (decide (0 ≤ sp) && (decide (0 ≤ dp) && (decide (0 ≤ n) && (decide (sp + n ≤ pz_len k0) && (decide (dp + n ≤ pz_len k1) && Nat.ble st.length 8)))))) with
    | false => exact ⟨fun _ _ _ _ hf => (by cases hf), fun _ hf => (by cases hf)⟩
    | true =>
      simp only [Bool.and_eq_true, decide_eq_true_eq, Nat.beq_eq, Nat.ble_eq] at hck
      obtain ⟨c0, c1, h1, h2, h3, h4, h5, h6⟩ := hck
      have hn : pz_in n := hoS (.inl n) List.mem_cons_self
      have hdp : pz_in dp := hoS (.inl dp) (List.mem_cons_of_mem _ List.mem_cons_self)
      have hsp : pz_in sp := hoS (.inl sp) (List.mem_cons_of_mem _ (List.mem_cons_of_mem _ (List.mem_cons_of_mem _ List.mem_cons_self)))
      refine ⟨fun pc' als' ast' M' hf0 Q kk => ?_, fun _ hf => (by cases hf)⟩
      cases hf0
      obtain ⟨j0, a1, a2, a3, -⟩ := pz_row_at (sd := sd) (cI := cI) (cB := cB) (ad := ad) (M := M) c0 hs (by omega)
      obtain ⟨j1, g1, g2, g3, ge⟩ := pz_row_at (sd := sd) (cI := cI) (cB := cB) (ad := ad) (M := M) c1 hs (by omega)
      have nl : ∀ z : Int, pz_in z → 0 ≤ z → ¬ pzJ z < 0 := fun z hz h0 => by rw [← pz_J_0, pz_J_lt hz pz_in_0]; omega
      refine va_copyi hx hb (hml.trans hL.1.symm) hown (pz_use hG.1 hw1 rfl args) (pz_use hG.1 hw2 rfl args) (pz_use hG.1 hw3 rfl args) (pz_use hG.1 hw4 rfl args) hG.2.1 hP (pz_ws_D hinj M) hS j0 j1 0 0 a3 g3 (ty := .int) (by rw [if_neg (by omega)]; rfl) (by rw [if_neg (by omega)]; rfl) rfl (nl sp hsp h1) (nl dp hdp h2) (nl n hn h3) (by rw [pz_clamp hsp, pz_clamp hn]; omega) (by rw [pz_clamp hdp, pz_clamp hn]; omega) (fun _ _ => rfl) (Nat.le_trans (by decide) hd) ?_ h (fun H1 locs1 hP1 _ hS1 => ?_)
      · rw [pz_sum]
        have e : nativeFrameWords "java/lang/System" "arraycopy" 5 = 7 := by decide
        rw [e]
        show st.length + (7 + 11) ≤ 128 * d
        omega
      · rw [pz_clamp hsp, pz_clamp hdp, pz_clamp hn, pz_cpy_eq, ← ge (pz_cpy M k0 k1 sp.toNat dp.toNat n.toNat)] at hP1
        have := pz_ws_set (cI := cI) (cB := cB) (ad := ad) (M := M) (M' := pz_cpy M k0 k1 sp.toNat dp.toNat n.toNat) g1 (fun q hq => pz_cpy_ne (by omega))
        rw [g2] at this
        rw [this] at hP1
        exact kk H1 locs1 ls ⟨hL, hoA, fun w hw => hoS w (List.mem_cons_of_mem _ (List.mem_cons_of_mem _ (List.mem_cons_of_mem _ (List.mem_cons_of_mem _ (List.mem_cons_of_mem _ hw))))), pz_cpy_in hMi, hP1, hS1⟩
  · exact ⟨fun _ _ _ _ hf => (by cases hf), fun _ hf => (by cases hf)⟩
end PZX
/-! ORDERS, texts -/
def op_psh (v : pz_V) (nx : Nat) : pz_F := fun σ => some (.inl (nx, σ.2.1, v :: σ.2.2.1, σ.2.2.2))
def op_tald (nx : Nat) : pz_F := fun σ => match σ.2.2.1 with
  | .inl i :: .inr (some k) :: st => bif Nat.beq k 80 && (decide (0 ≤ i) && decide (i < 8)) then some (.inl (nx, σ.2.1, pzI (pz_ords.getD i.toNat 0).toInt :: st, σ.2.2.2)) else none
  | _ => none
def op_sval (nx : Nat) : pz_F := fun σ => match σ.2.2.1 with
  | .inr (some k) :: st => bif Nat.beq (pz_cls k) 24 then some (.inl (nx, σ.2.1, pzR (k + 5) :: st, σ.2.2.2)) else none
  | _ => none
def op_scod (nx : Nat) : pz_F := fun σ => match σ.2.2.1 with
  | .inr (some k) :: st => bif Nat.beq (pz_cls k) 24 then some (.inl (nx, σ.2.1, pzI 0 :: st, σ.2.2.2)) else none
  | _ => none
def op_slen (nx : Nat) : pz_F := fun σ => match σ.2.2.1 with
  | .inr (some k) :: st => bif Nat.beq (pz_cls k) 25 then some (.inl (nx, σ.2.1, pzI (pz_sln.getD (k - 86) 0) :: st, σ.2.2.2)) else none
  | _ => none
def op_sbld (nx : Nat) : pz_F := fun σ => match σ.2.2.1 with
  | .inl i :: .inr (some k) :: st => bif Nat.beq (pz_cls k) 25 && (decide (0 ≤ i) && decide (i < pz_sln.getD (k - 86) 0)) then some (.inl (nx, σ.2.1, pzI ((pz_sby.getD (k - 86) []).getD i.toNat 0).toInt :: st, σ.2.2.2)) else none
  | _ => none
theorem pz_cls_sb0 : ∀ k, k < 133 → pz_cls k = 25 → 86 ≤ k ∧ k < 91 := by decide +kernel
theorem pz_cls_sb {k : Nat} (h : pz_cls k = 25) : ∃ i, i < 5 ∧ k = 86 + i := by
  by_cases hk : k < 133
  · obtain ⟨h1, h2⟩ := pz_cls_sb0 k hk h
    exact ⟨k - 86, by omega, by omega⟩
  · rw [pz_cls_out hk] at h; cases h
section PZT
variable {sd : Bool} {row : pz_Row} {pc idx : Nat}
theorem ok_psh {v : pz_V} {nx : Nat} (hv : pz_ok v) (h : ∀ (D : va_G) (cI cB : ClassId) (ad : Nat → Nat) (d : Nat) (p : Program) (l : Launch) (e : Env) (s : State) (m : MethodId) (args : Array Value) (below : List Frame) (meth : Method) (c : Code) (H : Heap) (locs : List Loc) (Q : State → Prop) (ls : Array Slot) (rest : List Value), pz_C sd D cI cB ad row d p s m meth c → va_S (pz_Ar sd ad) s.heap H locs → W p l e (pz_rm d) s m args below meth c H locs 0 0 Q (F0 m nx ls (pz_v ad v :: rest)) → W p l e (pz_rm d) s m args below meth c H locs 0 0 Q (F0 m pc ls rest)) : pz_OK sd row pc (op_psh v nx) := by
  intro D cI cB ad d p l e s m args below meth cd hCx als ast M H locs ls hI
  obtain ⟨hL, hoA, hoS, hMi, hP, hS⟩ := hI
  refine ⟨fun pc' als' ast' M' hf0 Q kk => ?_, fun _ hf => (by cases hf)⟩
  cases hf0
  exact h D cI cB ad d p l e s m args below meth cd H locs Q ls _ hCx hS (kk H locs ls ⟨hL, hoA, fun w hw => (List.mem_cons.mp hw).elim (fun q => by rw [q]; exact hv) (hoS w), hMi, hP, hS⟩)
theorem ok_getO (h : decode (rw_c row) pc = .ok (.getstatic idx, 3)) (hw : Cond.fieldLink (rw_y row).cls idx "PeacockDesk$Parties" "ORDERS" "[I" ∈ lw_tbl) : pz_OK sd row pc (op_psh (pzR 80) (pc + 3)) :=
  ok_psh trivial fun D cI cB ad d p l e s m args below meth c H locs Q ls rest hC hS k => va_gets hC.1 hC.2.1 hC.2.2.2.2.2.2.2.1.2.2.1 hS hC.2.2.2.1 (pz_use hC.2.2.2.2.2.2.2.1.1 hw rfl args) (fun _ q => q) h k
theorem ok_getCS (h : decode (rw_c row) pc = .ok (.getstatic idx, 3)) (hw : Cond.fieldLink (rw_y row).cls idx "java/lang/String" "COMPACT_STRINGS" "Z" ∈ lw_tbl) : pz_OK sd row pc (op_psh (pzI 1) (pc + 3)) :=
  ok_psh (by show pz_in 1; unfold pz_in; decide) fun D cI cB ad d p l e s m args below meth c H locs Q ls rest hC hS k => va_gets hC.1 hC.2.1 hC.2.2.2.2.2.2.2.1.2.2.2.2.1 hS hC.2.2.2.1 (pz_use hC.2.2.2.2.2.2.2.1.1 hw rfl args) (fun _ q => q) h k
theorem ok_ldcS {i : Nat} (hi : i < 5) (ho : (rw_y row).cls = "PeacockDesk$LawReader") (h : decode (rw_c row) pc = .ok (.ldc (pz_six.getD i 0), 2)) : pz_OK sd row pc (op_psh (pzR (81 + i)) (pc + 2)) :=
  ok_psh trivial fun D cI cB ad d p l e s m args below meth c H locs Q ls rest hC hS k => va_ldcS hC.1 hC.2.1 (by have := hC.2.2.2.1; rw [ho] at this; exact this) (hC.2.2.2.2.2.2.2.1.2.2.2.2.2.2.2 i hi) h k
theorem ok_tald (h : decode (rw_c row) pc = .ok (.iaload, 1)) : pz_OK sd row pc (op_tald (pc + 1)) := by
  intro D cI cB ad d p l e s m args below meth cd hCx als ast M H locs ls hI
  obtain ⟨hx, hb, hml, hown, hlocks, hret, hd, hG, hinj⟩ := hCx
  obtain ⟨hL, hoA, hoS, hMi, hP, hS⟩ := hI
  unfold op_tald
  dsimp only
  split
  · rename_i i k st
    cases hck : Nat.beq k 80 && (decide (0 ≤ i) && decide (i < 8)) with
    | false => exact ⟨fun _ _ _ _ hf => (by cases hf), fun _ hf => (by cases hf)⟩
    | true =>
      simp only [Bool.and_eq_true, decide_eq_true_eq, Nat.beq_eq] at hck
      obtain ⟨hk, h0, h1⟩ := hck
      subst hk
      have hii : pz_in i := hoS (.inl i) List.mem_cons_self
      refine ⟨fun pc' als' ast' M' hf0 Q kk => ?_, fun _ hf => (by cases hf)⟩
      cases hf0
      refine va_ti hx hb hG.2.2.2.1 hS (pz_vin hii h0 (by omega)) rfl h ?_
      have kk := kk H locs ls ⟨hL, hoA, fun w hw => (List.mem_cons.mp hw).elim (fun q => by rw [q]; exact pz_in_toInt _) (fun q => hoS w (List.mem_cons_of_mem _ (List.mem_cons_of_mem _ q))), hMi, hP, hS⟩
      rw [List.map_cons, pz_v_toInt] at kk
      rw [pz_clamp hii]
      exact kk
  · exact ⟨fun _ _ _ _ hf => (by cases hf), fun _ hf => (by cases hf)⟩
theorem ok_sval (h : decode (rw_c row) pc = .ok (.getfield idx, 3)) (hw : Cond.fieldLink (rw_y row).cls idx "java/lang/String" "value" "[B" ∈ lw_tbl) : pz_OK sd row pc (op_sval (pc + 3)) := by
  intro D cI cB ad d p l e s m args below meth cd hCx als ast M H locs ls hI
  obtain ⟨hx, hb, hml, hown, hlocks, hret, hd, hG, hinj⟩ := hCx
  obtain ⟨hL, hoA, hoS, hMi, hP, hS⟩ := hI
  unfold op_sval
  dsimp only
  split
  · rename_i k st
    cases hck : Nat.beq (pz_cls k) 24 with
    | false => exact ⟨fun _ _ _ _ hf => (by cases hf), fun _ hf => (by cases hf)⟩
    | true =>
      obtain ⟨i, hi, rfl⟩ := pz_cls_str (Nat.eq_of_beq_eq_true hck)
      refine ⟨fun pc' als' ast' M' hf0 Q kk => ?_, fun _ hf => (by cases hf)⟩
      cases hf0
      refine vk_getf (v := .ref (ad (86 + i))) hx hb (hG.2.2.2.2.2.2.1.1 i hi).2.2.1 hS hown (pz_use hG.1 hw rfl args) (fun _ q => q) h ?_
      have kk := kk H locs ls ⟨hL, hoA, fun w hw => (List.mem_cons.mp hw).elim (fun q => by rw [q]; trivial) (fun q => hoS w (List.mem_cons_of_mem _ q)), hMi, hP, hS⟩
      rw [show 81 + i + 5 = 86 + i by omega] at kk
      exact kk
  · exact ⟨fun _ _ _ _ hf => (by cases hf), fun _ hf => (by cases hf)⟩
theorem ok_scod (h : decode (rw_c row) pc = .ok (.getfield idx, 3)) (hw : Cond.fieldLink (rw_y row).cls idx "java/lang/String" "coder" "B" ∈ lw_tbl) : pz_OK sd row pc (op_scod (pc + 3)) := by
  intro D cI cB ad d p l e s m args below meth cd hCx als ast M H locs ls hI
  obtain ⟨hx, hb, hml, hown, hlocks, hret, hd, hG, hinj⟩ := hCx
  obtain ⟨hL, hoA, hoS, hMi, hP, hS⟩ := hI
  unfold op_scod
  dsimp only
  split
  · rename_i k st
    cases hck : Nat.beq (pz_cls k) 24 with
    | false => exact ⟨fun _ _ _ _ hf => (by cases hf), fun _ hf => (by cases hf)⟩
    | true =>
      obtain ⟨i, hi, rfl⟩ := pz_cls_str (Nat.eq_of_beq_eq_true hck)
      refine ⟨fun pc' als' ast' M' hf0 Q kk => ?_, fun _ hf => (by cases hf)⟩
      cases hf0
      refine vk_getf (v := .int 0) hx hb (hG.2.2.2.2.2.2.1.1 i hi).2.1 hS hown (pz_use hG.1 hw rfl args) (fun _ q => q) h ?_
      exact kk H locs ls ⟨hL, hoA, fun w hw => (List.mem_cons.mp hw).elim (fun q => by rw [q]; exact pz_in_0) (fun q => hoS w (List.mem_cons_of_mem _ q)), hMi, hP, hS⟩
  · exact ⟨fun _ _ _ _ hf => (by cases hf), fun _ hf => (by cases hf)⟩
theorem pz_sln_in : ∀ i, i < 5 → pz_in (pz_sln.getD i 0 : Int) ∧ Int32.ofNat (pz_sln.getD i 0) = Int32.ofInt (pz_sln.getD i 0 : Int) := by
  intro i hi
  refine ⟨?_, Int32.ofInt_eq_ofNat.symm⟩
  have : ∀ i, i < 5 → pz_sln.getD i 0 ≤ 200 := by decide
  exact pz_in_small _ (this i hi)
theorem ok_slen (h : decode (rw_c row) pc = .ok (.arraylength, 1)) : pz_OK sd row pc (op_slen (pc + 1)) := by
  intro D cI cB ad d p l e s m args below meth cd hCx als ast M H locs ls hI
  obtain ⟨hx, hb, hml, hown, hlocks, hret, hd, hG, hinj⟩ := hCx
  obtain ⟨hL, hoA, hoS, hMi, hP, hS⟩ := hI
  unfold op_slen
  dsimp only
  split
  · rename_i k st
    cases hck : Nat.beq (pz_cls k) 25 with
    | false => exact ⟨fun _ _ _ _ hf => (by cases hf), fun _ hf => (by cases hf)⟩
    | true =>
      obtain ⟨i, hi, rfl⟩ := pz_cls_sb (Nat.eq_of_beq_eq_true hck)
      refine ⟨fun pc' als' ast' M' hf0 Q kk => ?_, fun _ hf => (by cases hf)⟩
      cases hf0
      have e : 86 + i - 86 = i := by omega
      refine va_tlen (v := Int32.ofInt (pz_sln.getD i 0 : Int)) hx hb (hG.2.2.2.2.2.2.1.1 i hi).2.2.2 hS (pz_sln_in i hi).2 h ?_
      have kk := kk H locs ls ⟨hL, hoA, fun w hw => (List.mem_cons.mp hw).elim (fun q => by rw [q, e]; exact (pz_sln_in i hi).1) (fun q => hoS w (List.mem_cons_of_mem _ q)), hMi, hP, hS⟩
      rw [e] at kk
      exact kk
  · exact ⟨fun _ _ _ _ hf => (by cases hf), fun _ hf => (by cases hf)⟩
theorem ok_sbld (h : decode (rw_c row) pc = .ok (.baload, 1)) : pz_OK sd row pc (op_sbld (pc + 1)) := by
  intro D cI cB ad d p l e s m args below meth cd hCx als ast M H locs ls hI
  obtain ⟨hx, hb, hml, hown, hlocks, hret, hd, hG, hinj⟩ := hCx
  obtain ⟨hL, hoA, hoS, hMi, hP, hS⟩ := hI
  unfold op_sbld
  dsimp only
  split
  · rename_i i k st
    cases hck : Nat.beq (pz_cls k) 25 && (decide (0 ≤ i) && decide (i < pz_sln.getD (k - 86) 0)) with
    | false => exact ⟨fun _ _ _ _ hf => (by cases hf), fun _ hf => (by cases hf)⟩
    | true =>
      simp only [Bool.and_eq_true, decide_eq_true_eq, Nat.beq_eq] at hck
      obtain ⟨hk, h0, h1⟩ := hck
      obtain ⟨j, hj, rfl⟩ := pz_cls_sb hk
      have e : 86 + j - 86 = j := by omega
      rw [e] at h1
      have hii : pz_in i := hoS (.inl i) List.mem_cons_self
      refine ⟨fun pc' als' ast' M' hf0 Q kk => ?_, fun _ hf => (by cases hf)⟩
      cases hf0
      refine va_tb hx hb (hG.2.2.2.2.2.2.1.1 j hj).2.2.2 hS (pz_vin hii h0 h1) rfl h ?_
      have kk := kk H locs ls ⟨hL, hoA, fun w hw => (List.mem_cons.mp hw).elim (fun q => by rw [q]; exact pz_in_toInt _) (fun q => hoS w (List.mem_cons_of_mem _ (List.mem_cons_of_mem _ q))), hMi, hP, hS⟩
      rw [List.map_cons, pz_v_toInt, e] at kk
      rw [pz_clamp hii]
      exact kk
  · exact ⟨fun _ _ _ _ hf => (by cases hf), fun _ hf => (by cases hf)⟩
def f_i2c (x : Int32) : Int32 := (x.toUInt32 % 65536).toInt32
theorem ok_i2c (h : decode (rw_c row) pc = .ok (.i2c, 1)) : pz_OK sd row pc (op_stk (sg_un f_i2c) (pc + 1)) := ok_un fun _ _ _ _ _ _ _ _ _ _ _ _ _ _ _ _ hx hb k => lv_i2c hx hb h rfl k
def g_chr (x : Int) : Bool := decide (narrow .char (.int (pzJ x)) = .int (pzJ x))
theorem pz_g_chr : ∀ x, pz_in x → g_chr x = true → narrow .char (.int (pzJ x)) = .int (pzJ x) := by
  intro x _ h
  unfold g_chr at h
  exact of_decide_eq_true h
end PZT
/-! the JDK's look at an index -/
set_option maxHeartbeats 4000000 in
theorem pz_chk0 (l : Launch) (i n : Int32) (v : Value) (hv : v.category = 1) (h0 : ¬ i < 0) (h1 : i < n) : Met l yJ3_checkIndex_8e157 [Cond.code yJ3_checkIndex_8e157 cJ3_checkIndex_8e157 3 (some .int)] { frames := 0, cells := 0, slots := 0, locals := 0 } (fun a _ => a = ([.int i, .int n, v] : List Value).toArray) (QcRead i) 0 0 (fun _ => False) := by
  refine Met.ofW (cc := cJ3_checkIndex_8e157) (maxL := 3) (ret := some .int) (by decide) rfl ?_
  intro p e s m args below meth c s₁ B hml hv0
  subst hv0
  have hx := B.exec
  have hb := B.bytes
  have hr := B.returns
  have hlocks := B.notSynchronized
  rw [lg_entry_eq]
  have hcat : ∀ w ∈ ([.int i, .int n, v] : List Value), w.category = 1 := by
    intro w hw
    rcases List.mem_cons.mp hw with rfl | hw
    · rfl
    rcases List.mem_cons.mp hw with rfl | hw
    · rfl
    rcases List.mem_cons.mp hw with rfl | hw
    · exact hv
    · cases hw
  have hl := lv_entry ([.int i, .int n, v]) (n := 3) (by rw [pz_lg_sl _ hcat]; exact Nat.le_refl 3)
  generalize (lg_sl ([.int i, .int n, v]) ++ List.replicate (3 - (lg_sl ([.int i, .int n, v])).length) Slot.unset).toArray = ls at hl ⊢
  have hl : lv_has ls 3 [(0, .int i), (1, .int n), (2, v)] := ⟨hl.1, hl.2.1, fun q hq => hl.2.2 q (by simpa [lv_args, Value.category] using hq)⟩
  refine lv_iload_n hx hb (k := 0) (i := 0) (by decide +kernel) rfl (lv_at hl 0 rfl) ?_
  refine lv_if_lt hx hb (off := 8) (tgt := 9) (by decide +kernel) (by decide) (fun z => absurd z h0) (fun _ => ?_)
  refine lv_iload_n hx hb (k := 0) (i := 0) (by decide +kernel) rfl (lv_at hl 0 rfl) ?_
  refine lv_iload_n hx hb (k := 1) (i := 1) (by decide +kernel) rfl (lv_at hl 1 rfl) ?_
  refine lv_icmp_lt hx hb (off := 10) (tgt := 16) (by decide +kernel) (by decide) (fun _ => ?_) (fun z => absurd h1 z)
  refine lv_iload_n hx hb (k := 0) (i := 0) (by decide +kernel) rfl (lv_at hl 0 rfl) ?_
  exact W.iret (v := i) hx hb hr (fun t ht hW => ⟨rfl, ht⟩) (fun q hq => by cases hq) (by decide +kernel)
def op_chk (nx : Nat) : pz_F := fun σ => match σ.2.2.1 with
  | .inl n :: .inl i :: st => bif decide (0 ≤ i) && (decide (i < n) && Nat.ble st.length 8) then some (.inl (nx, σ.2.1, st, σ.2.2.2)) else none
  | _ => none
theorem pz_cod3 : Cond.code yJ3_checkIndex_8e157 cJ3_checkIndex_8e157 3 (some .int) ∈ tables_1 := List.mem_of_getElem? (i := 390) (by decide +kernel)
theorem pz_lnk3 : Cond.methodLink "java/lang/String" 1059 yJ3_checkIndex_8e157 ∈ tables_1 := List.mem_of_getElem? (i := 388) (by decide +kernel)
theorem pz_sta3 : Cond.static yJ3_checkIndex_8e157 ∈ tables_1 := List.mem_of_getElem? (i := 389) (by decide +kernel)
theorem pz_ini3 : Cond.initialized "jdk/internal/util/Preconditions" ∈ tables_1 := List.mem_of_getElem? (i := 15) (by decide +kernel)
theorem pz_fld3 : Cond.fieldLink "java/lang/String" 1053 "jdk/internal/util/Preconditions" "SIOOBE_FORMATTER" "Ljava/util/function/BiFunction;" ∈ tables_1 := List.mem_of_getElem? (i := 386) (by decide +kernel)
theorem pz_tb {w : Cond} (h : w ∈ tables_1) : w ∈ lw_tbl := List.mem_append_right _ h
set_option maxHeartbeats 4000000 in
theorem pz_chk1 (l : Launch) (A : Nat → Prop) (i n : Int32) (h0 : ¬ i < 0) (h1 : i < n) : Met l yJ0_checkIndex_df160 [Cond.code yJ0_checkIndex_df160 cJ0_checkIndex_df160 2 none] { frames := 1, cells := 0, slots := 0, locals := 32 } (fun a U => a = ([.int i, .int n] : List Value).toArray ∧ pz_W U ∧ va_Zq "jdk/internal/util/Preconditions" "SIOOBE_FORMATTER" "Ljava/util/function/BiFunction;" A U U.heap) (fun _ st o t => o = .returned none ∧ t.heap = st.heap) 0 0 (fun _ => False) := by
  refine Met.ofW (cc := cJ0_checkIndex_df160) (maxL := 2) (ret := none) (by decide) rfl ?_
  intro p e s m args below meth c s₁ B hml hv0
  obtain ⟨rfl, hw, hZ⟩ := hv0
  have hx := B.exec
  have hb := B.bytes
  have hr := B.returns
  have hlocks := B.notSynchronized
  have hown : s.vm.findClass "java/lang/String" = some m.cls := findClass_of_methodNamed B.named
  rw [lg_entry_eq]
  have hl := lv_entry ([.int i, .int n]) (n := 2) (Nat.le_of_ble_eq_true rfl)
  generalize (lg_sl ([.int i, .int n]) ++ List.replicate (2 - (lg_sl ([.int i, .int n])).length) Slot.unset).toArray = ls at hl ⊢
  have hl : lv_has ls 2 [(0, .int i), (1, .int n)] := hl
  refine lv_iload_n hx hb (k := 0) (i := 0) (by decide +kernel) rfl (lv_at hl 0 rfl) ?_
  refine lv_iload_n hx hb (k := 1) (i := 1) (by decide +kernel) rfl (lv_at hl 1 rfl) ?_
  have rest : ∀ v : Value, v.category = 1 → W p l e (headSpec [Cond.code yJ0_checkIndex_df160 cJ0_checkIndex_df160 2 none] { frames := 1, cells := 0, slots := 0, locals := 32 }).room s m ([.int i, .int n] : List Value).toArray below meth c s.heap [] 0 0 (MQ below (fun _ st o t => o = .returned none ∧ t.heap = st.heap) ([.int i, .int n] : List Value).toArray s 0 0 (fun _ => False)) (F0 m 5 ls [v, .int n, .int i]) := by
    intro v hv
    refine W.callR (r := i) (a := ([.int i, .int n, v] : List Value).toArray) (va_Run.run (va_runS (As := [.int i, .int n, v]) (rest := []) (Ts := []) (cc := cJ0_checkIndex_df160) (nL := 2) (own := "java/lang/String") ⟨hx, hb, hml, hown, fun w hw => by cases hw⟩ (pz_chk0 l i n v hv h0 h1) (bytes := cJ3_checkIndex_8e157) (maxL := 3) (ret := some .int) (n := 3) ⟨⟨rfl, rfl, Nat.le_refl 1, (by decide), ?_, List.mem_cons_self, pz_use hw (pz_tb pz_cod3) rfl _, pz_use hw (pz_tb pz_ini3) rfl _, (by decide), ?_, pz_use hw (pz_tb pz_lnk3) rfl _⟩, pz_use hw (pz_tb pz_sta3) rfl _⟩ ⟨fun _ _ _ _ q => q, fun _ _ _ => rfl⟩ rfl rfl hl.1 rfl (lv_room (by decide)) (show decode cJ0_checkIndex_df160 5 = .ok (.invokestatic 1059, 3) from (by decide +kernel)) ⟨Nat.zero_le _, Nat.zero_le _⟩)) ?_
    · intro w hw0 a' U hW
      rw [List.mem_singleton.mp hw0]
      exact pz_use (hw.warm hW) (pz_tb pz_cod3) rfl a'
    · intro sig hsig
      have : (parseMethodDescriptor yJ3_checkIndex_8e157.desc).map (fun d => d.parameters.length) = some 3 := by decide +kernel
      rw [hsig] at this
      exact (Option.some.inj this).symm
    · refine W.eq (g2 := F0 m 8 ls [.int i]) rfl ?_
      refine lv_pop hx hb (by decide +kernel) rfl ?_
      exact W.vret hx hb hr (fun t ht hW => ⟨rfl, ht⟩) (fun q hq => by cases hq) (by decide +kernel)
  rcases hZ with hZ | ⟨t, hZ⟩
  · exact va_gets hx hb hZ va_S.rf hown (pz_use hw (pz_tb pz_fld3) rfl _) (fun _ q => q) (by decide +kernel) (rest .null rfl)
  · exact va_gets hx hb hZ va_S.rf hown (pz_use hw (pz_tb pz_fld3) rfl _) (fun _ q => q) (by decide +kernel) (rest (.ref t) rfl)
theorem pz_np3 : (parseMethodDescriptor yJ0_checkIndex_df160.desc).map (fun d => d.parameters.length) = some 2 := by decide +kernel
set_option maxHeartbeats 4000000 in
theorem ok_chk {sd : Bool} {row : pz_Row} {pc idx : Nat} (h : decode (rw_c row) pc = .ok (.invokestatic idx, 3)) (hw1 : Cond.methodLink (rw_y row).cls idx yJ0_checkIndex_df160 ∈ lw_tbl) (hw2 : Cond.static yJ0_checkIndex_df160 ∈ lw_tbl) (hw3 : Cond.code yJ0_checkIndex_df160 cJ0_checkIndex_df160 2 none ∈ lw_tbl) (hw4 : Cond.initialized "java/lang/String" ∈ lw_tbl) : pz_OK sd row pc (op_chk (pc + 3)) := by
  intro D cI cB ad d p l e s m args below meth cd hCx als ast M H locs ls hI
  obtain ⟨hx, hb, hml, hown, hlocks, hret, hd, hG, hinj⟩ := hCx
  obtain ⟨hL, hoA, hoS, hMi, hP, hS⟩ := hI
  unfold op_chk
  dsimp only
  split
  · rename_i n i st
    cases hck : decide (0 ≤ i) && (decide (i < n) && Nat.ble st.length 8) with
    | false => exact ⟨fun _ _ _ _ hf => (by cases hf), fun _ hf => (by cases hf)⟩
    | true =>
      simp only [Bool.and_eq_true, decide_eq_true_eq, Nat.ble_eq] at hck
      obtain ⟨h0, h1, h2⟩ := hck
      have hni : pz_in n := hoS (.inl n) List.mem_cons_self
      have hii : pz_in i := hoS (.inl i) (List.mem_cons_of_mem _ List.mem_cons_self)
      refine ⟨fun pc' als' ast' M' hf0 Q kk => ?_, fun _ hf => (by cases hf)⟩
      cases hf0
      have kk := kk H locs ls ⟨hL, hoA, fun w hw => hoS w (List.mem_cons_of_mem _ (List.mem_cons_of_mem _ hw)), hMi, hP, hS⟩
      have hrun := va_runS (p := p) (l := l) (e := e) (R := pz_rm d) (s := s) (m := m) (args := args) (below := below) (meth := meth) (c := cd) (H := H) (locs := locs) (cells := 0) (slots := 0) (As := [.int (pzJ i), .int (pzJ n)]) (rest := st.map (pz_v ad)) (Ts := []) (cc := rw_c row) (nL := rw_n row) (own := (rw_y row).cls) (g := F0 m pc ls (.int (pzJ n) :: .int (pzJ i) :: st.map (pz_v ad))) ⟨hx, hb, hml, hown, fun w hw => by cases hw⟩ (pz_chk1 l (pz_Ar sd ad) (pzJ i) (pzJ n) (by rw [← pz_J_0, pz_J_lt hii pz_in_0]; omega) ((pz_J_lt hii hni).mpr h1)) (bytes := cJ0_checkIndex_df160) (maxL := 2) (ret := none) (n := 2) (index := idx) ⟨⟨rfl, rfl, (by show 2 ≤ d; omega), (by show 8 + (2 + 11) + 32 ≤ 128 * d; omega), (fun w hw0 a' U hW => by rw [List.mem_singleton.mp hw0]; exact pz_use (hG.1.warm hW) hw3 rfl a'), List.mem_cons_self, pz_use hG.1 hw3 rfl _, pz_use hG.1 hw4 rfl _, (by decide), (fun sig hsig => by have := pz_np3; rw [hsig] at this; exact (Option.some.inj this).symm), pz_use hG.1 hw1 rfl _⟩, pz_use hG.1 hw2 rfl _⟩ ⟨fun a U g mk q => ⟨q.1, pz_W.same (s := U) (U := U.calling g mk a) rfl q.2.1, va_Zq.moved (u := U) (U := U.calling g mk a) (Vm.Alike.refl U.vm) q.2.2⟩, fun U hU hW => ⟨rfl, hG.1.warm hW, va_Zq.moved hW.alike (by rw [hU]; exact hG.2.2.2.2.2.1.kept hS.2.1)⟩⟩ rfl rfl hL.1 rfl (lv_room (by rw [pz_sum]; exact h2)) h ⟨Nat.zero_le _, Nat.zero_le _⟩
      intro T hT X
      obtain ⟨v, st₀, t, T', L, g0, X', hL', e1, e2, ⟨hv, hk⟩, stp⟩ := hrun T hT X
      cases hv
      obtain ⟨t2, a1, b1⟩ := kk T' (by rw [e1, hk, g0]) (Stand.forget X' (fun q h => (hL' q h).elim))
      exact ⟨t2, stp t2 a1, b1⟩
  · exact ⟨fun _ _ _ _ hf => (by cases hf), fun _ hf => (by cases hf)⟩
