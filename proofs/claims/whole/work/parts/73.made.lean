/-! ===== constructors: fields that are filled in order ===== -/
def cn_cons (a : Nat) (q : Nat → Nat) : Nat → Nat := fun i => match i with
  | 0 => a
  | i + 1 => q i
def cn_fs (av : List Nat) : List (Nat × Nat × Nat) → List Value → (Nat → Nat) → List Value
  | [], fs, _ => fs
  | (0, _, f) :: os, fs, q => cn_fs av os (fs.set f (.int 0)) q
  | (1, _, f) :: os, fs, q => cn_fs av os (fs.set f (.ref (q 0))) (fun i => q (i + 1))
  | (2, _, f) :: os, fs, q => cn_fs av os (fs.set f (.ref (q 0))) (fun i => q (i + 1))
  | (_ + 3, n, f) :: os, fs, q => cn_fs av os (fs.set f (.ref (av.getD n 0))) q
def cn_R (cI cB : ClassId) : List (Nat × Nat × Nat) → (Nat → Nat) → va_W
  | [], _ => []
  | (0, _, _) :: os, q => cn_R cI cB os q
  | (1, n, _) :: os, q => (q 0, .inl (cI, n, .inl (fun _ => 0))) :: cn_R cI cB os (fun i => q (i + 1))
  | (2, n, _) :: os, q => (q 0, .inl (cB, n, .inl (fun _ => 0))) :: cn_R cI cB os (fun i => q (i + 1))
  | (_ + 3, _, _) :: os, q => cn_R cI cB os q
def cn_c : List (Nat × Nat × Nat) → Nat
  | [] => 0
  | (0, _, _) :: os => cn_c os
  | (1, _, _) :: os => cn_c os + 1
  | (2, _, _) :: os => cn_c os + 1
  | (_ + 3, _, _) :: os => cn_c os
def cn_s : List (Nat × Nat × Nat) → Nat
  | [] => 0
  | (0, _, _) :: os => cn_s os
  | (1, n, _) :: os => cn_s os + n
  | (2, n, _) :: os => cn_s os + n
  | (_ + 3, _, _) :: os => cn_s os
def cn_push (cc : ByteArray) (pc n nx : Nat) : Prop :=
  (decode cc pc = .ok (.bipush (n : Int), 2) ∧ (Int8.ofInt (n : Int)).toInt32 = Int32.ofNat n ∧ nx = pc + 2) ∨ (decode cc pc = .ok (.sipush (n : Int), 3) ∧ (Int16.ofInt (n : Int)).toInt32 = Int32.ofNat n ∧ nx = pc + 3) ∨ (decode cc pc = .ok (.iconst (n : Int), 1) ∧ Int32.ofInt (n : Int) = Int32.ofNat n ∧ nx = pc + 1)
def cn_sz (n : Nat) : Prop := ¬ Int32.ofNat n < 0 ∧ (Int32.ofNat n).toNatClampNeg = n ∧ n ≤ 20000
def cn_val (cc : ByteArray) (na : Nat) : Nat → Nat → Nat → Nat → Prop
  | 0, _, pc, nx => decode cc pc = .ok (.iconst 0, 1) ∧ nx = pc + 1
  | 1, n, pc, nx => ∃ p1, cn_push cc pc n p1 ∧ cn_sz n ∧ decode cc p1 = .ok (.newarray .int, 2) ∧ nx = p1 + 2
  | 2, n, pc, nx => ∃ p1, cn_push cc pc n p1 ∧ cn_sz n ∧ decode cc p1 = .ok (.newarray .byte, 2) ∧ nx = p1 + 2
  | _ + 3, n, pc, nx => n < na ∧ ∃ k : Fin 4, (k : Nat) = n + 1 ∧ decode cc pc = .ok (.aload_n k, 1) ∧ nx = pc + 1
def cn_ty (kd : Nat) (d : String) : Prop := ∃ ty : FieldType, parseFieldDescriptor d = some ty ∧ ((kd = 0 ∧ narrow ty (.int 0) = .int 0 ∧ fits ty (.int 0) = true) ∨ (kd ≠ 0 ∧ ∀ a : Nat, narrow ty (.ref a) = .ref a ∧ fits ty (.ref a) = true))
def cn_ok (cc : ByteArray) (na : Nat) (C : String) (T : u_T) (N : Nat) : List (Nat × Nat × Nat) → Nat → Nat → Prop
  | [], pc, pe => pc = pe
  | (kd, n, f) :: os, pc, pe => decode cc pc = .ok (.aload_n 0, 1) ∧ f < N ∧ (T f).1 = C ∧ cn_ty kd (T f).2.2.1 ∧ ∃ p2 idx, cn_val cc na kd n (pc + 1) p2 ∧ decode cc p2 = .ok (.putfield idx, 3) ∧ Cond.fieldLink C idx (T f).1 (T f).2.1 (T f).2.2.1 ∈ lw_tbl ∧ cn_ok cc na C T N os (p2 + 3) pe
section CNR
variable {p : Program} {l : Launch} {e : Env} {R : Room} {s : State} {m : MethodId} {args : Array Value} {below : List Frame} {meth : Method} {c : Code} {Q : State → Prop} {D : va_G} {cI cB : ClassId} {A : Nat → Prop} {cc : ByteArray} {C : String} {T : u_T} {N ci : Nat}
theorem cn_put {H : Heap} {locs : List Loc} {cells slots pc idx f : Nat} {ls : Array Slot} {rest : List Value} {a : Nat} {fs : List Value} {Rr : va_W} {v : Value} {tys : List (ClassId × FieldType)} (hx : p.tables.exec = Jvm.exec) (hb : c.code = cc) (hC : pz_clsOK ci C T N) (hown : s.vm.findClass C = some m.cls) (hin : meth.name = "<init>") (hW : pz_W s) (hK : va_K D pz_CL tys s)
    (hP : va_P D pz_CL ((a, .inr (ci, fs)) :: Rr) H) (hD : va_D A ((a, .inr (ci, fs)) :: Rr)) (hS : va_S A s.heap H locs) (hf : f < N) (hT : (T f).1 = C) (hl : fs.length = N) (hlk : Cond.fieldLink C idx (T f).1 (T f).2.1 (T f).2.2.1 ∈ lw_tbl) {ty : FieldType} (hty : parseFieldDescriptor (T f).2.2.1 = some ty) (hn : narrow ty v = v) (hfit : fits ty v = true) (hdg : decode cc pc = .ok (.putfield idx, 3))
    (kk : ∀ (H1 : Heap) (locs1 : List Loc), va_P D pz_CL ((a, .inr (ci, fs.set f v)) :: Rr) H1 → va_D A ((a, .inr (ci, fs.set f v)) :: Rr) → va_S A s.heap H1 locs1 → W p l e R s m args below meth c H1 locs1 cells slots Q (F0 m (pc + 3) ls rest)) : W p l e R s m args below meth c H locs cells slots Q (F0 m pc ls (v :: .ref a :: rest)) := by
  obtain ⟨k1, k2, k3, ⟨ty0, hty0⟩, hnm, -⟩ := hC
  have hts : ∀ w ∈ u_ws C T N, w.before args s = true := fun w hw => pz_use hW (k3 w hw).1 (k3 w hw).2 args
  cases hfin : (T f).2.2.2 with
  | true => exact va_putF hx hb hts (fun _ q => q) ty0 hty0 hnm hown hK hP hD hS 0 rfl k1 f hf (pz_use hW hlk rfl args) (fun _ q => q) hfin hin hT hty hn hfit (by rw [hl]; exact hf) hdg kk
  | false => exact va_put hx hb hts (fun _ q => q) ty0 hty0 hnm hown hK hP hD hS 0 rfl k1 f hf (pz_use hW hlk rfl args) (fun _ q => q) hfin hty hn hfit (by rw [hl]; exact hf) hdg kk
theorem cn_pushW {H : Heap} {locs : List Loc} {cells slots pc n nx : Nat} {ls : Array Slot} {rest : List Value} (hx : p.tables.exec = Jvm.exec) (hb : c.code = cc) (h : cn_push cc pc n nx) (kk : W p l e R s m args below meth c H locs cells slots Q (F0 m nx ls (.int (Int32.ofNat n) :: rest))) : W p l e R s m args below meth c H locs cells slots Q (F0 m pc ls rest) := by
  rcases h with ⟨h1, h2, rfl⟩ | ⟨h1, h2, rfl⟩ | ⟨h1, h2, rfl⟩
  · exact lv_bipush hx hb h1 h2 kk
  · exact lv_sipush hx hb h1 h2 kk
  · exact lv_iconst hx hb h1 h2 kk
theorem cn_newI {H : Heap} {locs : List Loc} {cells slots pc n : Nat} {ls : Array Slot} {rest : List Value} {ws : va_W} (hx : p.tables.exec = Jvm.exec) (hb : c.code = cc) (hW : pz_W s) (hK : va_K D pz_CL [(cI, .int), (cB, .byte)] s) (hP : va_P D pz_CL ws H) (hD : va_D A ws) (hS : va_S A s.heap H locs) (hA : ∀ q, s.heap.size ≤ q → A q) (hn : cn_sz n) (hc : cells + 1 ≤ R.cells) (hs : slots + n ≤ R.slots) (hdg : decode cc pc = .ok (.newarray .int, 2))
    (kk : ∀ (q : Nat) (H1 : Heap), va_P D pz_CL (ws ++ [(q, .inl (cI, n, .inl (fun _ => 0)))]) H1 → va_D A (ws ++ [(q, .inl (cI, n, .inl (fun _ => 0)))]) → va_S A s.heap H1 locs → W p l e R s m args below meth c H1 locs (cells + 1) (slots + n) Q (F0 m (pc + 2) ls (.ref q :: rest))) : W p l e R s m args below meth c H locs cells slots Q (F0 m pc ls (.int (Int32.ofNat n) :: rest)) := by
  refine va_newa (a0 := (n, .inl (fun _ => 0))) (ty := .int) hx hb (pz_use hW (pz_tb (List.mem_of_getElem? (i := 64) (by decide +kernel))) rfl args) rfl hK hP hD hS hA (fun _ => rfl) hn.1 hn.2.1 (by have := hn.2.2; show n * 4 ≤ 536870912; omega) hc hs hdg (fun q cA H1 hK1 hP1 hD1 hS1 => ?_)
  have e : cA = cI := by
    have h1 := (hK1.2 2 (cA, .int) rfl).2
    have h2 := (hK.2 0 (cI, .int) rfl).2
    exact Option.some.inj (h1.symm.trans h2)
  subst e
  exact kk q H1 hP1 hD1 hS1
theorem cn_newB {H : Heap} {locs : List Loc} {cells slots pc n : Nat} {ls : Array Slot} {rest : List Value} {ws : va_W} (hx : p.tables.exec = Jvm.exec) (hb : c.code = cc) (hW : pz_W s) (hK : va_K D pz_CL [(cI, .int), (cB, .byte)] s) (hP : va_P D pz_CL ws H) (hD : va_D A ws) (hS : va_S A s.heap H locs) (hA : ∀ q, s.heap.size ≤ q → A q) (hn : cn_sz n) (hc : cells + 1 ≤ R.cells) (hs : slots + n ≤ R.slots) (hdg : decode cc pc = .ok (.newarray .byte, 2))
    (kk : ∀ (q : Nat) (H1 : Heap), va_P D pz_CL (ws ++ [(q, .inl (cB, n, .inl (fun _ => 0)))]) H1 → va_D A (ws ++ [(q, .inl (cB, n, .inl (fun _ => 0)))]) → va_S A s.heap H1 locs → W p l e R s m args below meth c H1 locs (cells + 1) (slots + n) Q (F0 m (pc + 2) ls (.ref q :: rest))) : W p l e R s m args below meth c H locs cells slots Q (F0 m pc ls (.int (Int32.ofNat n) :: rest)) := by
  refine va_newa (a0 := (n, .inl (fun _ => 0))) (ty := .byte) hx hb (pz_use hW (pz_tb (List.mem_of_getElem? (i := 461) (by decide +kernel))) rfl args) rfl hK hP hD hS hA (fun _ => rfl) hn.1 hn.2.1 (by have := hn.2.2; show n * 1 ≤ 536870912; omega) hc hs hdg (fun q cA H1 hK1 hP1 hD1 hS1 => ?_)
  have e : cA = cB := by
    have h1 := (hK1.2 2 (cA, .byte) rfl).2
    have h2 := (hK.2 1 (cB, .byte) rfl).2
    exact Option.some.inj (h1.symm.trans h2)
  subst e
  exact kk q H1 hP1 hD1 hS1
theorem cn_run {a : Nat} {av : List Nat} {ls : Array Slot} (hx : p.tables.exec = Jvm.exec) (hb : c.code = cc) (hC : pz_clsOK ci C T N) (hown : s.vm.findClass C = some m.cls) (hin : meth.name = "<init>") (hW : pz_W s) (hK : va_K D pz_CL [(cI, .int), (cB, .byte)] s) (hA : ∀ q, s.heap.size ≤ q → A q) (h0 : ls[0]? = some (.val (.ref a))) (hav : ∀ n, n < av.length → ls[n + 1]? = some (.val (.ref (av.getD n 0)))) :
    ∀ (os : List (Nat × Nat × Nat)) (pc pe : Nat) (fs : List Value) (Rr : va_W) (H : Heap) (locs : List Loc) (cells slots : Nat), cn_ok cc av.length C T N os pc pe → fs.length = N → va_P D pz_CL ((a, .inr (ci, fs)) :: Rr) H → va_D A ((a, .inr (ci, fs)) :: Rr) → va_S A s.heap H locs → cells + cn_c os ≤ R.cells → slots + cn_s os ≤ R.slots →
    (∀ (q : Nat → Nat) (H1 : Heap) (locs1 : List Loc), va_P D pz_CL ((a, .inr (ci, cn_fs av os fs q)) :: (Rr ++ cn_R cI cB os q)) H1 → va_D A ((a, .inr (ci, cn_fs av os fs q)) :: (Rr ++ cn_R cI cB os q)) → va_S A s.heap H1 locs1 → W p l e R s m args below meth c H1 locs1 (cells + cn_c os) (slots + cn_s os) Q (F0 m pe ls [])) →
    W p l e R s m args below meth c H locs cells slots Q (F0 m pc ls []) := by
  intro os
  induction os with
  | nil =>
    intro pc pe fs Rr H locs cells slots hok hl hP hD hS _ _ kk
    have hok : pc = pe := hok
    subst hok
    have kk := kk (fun _ => 0) H locs
    rw [show Rr ++ cn_R cI cB [] (fun _ => 0) = Rr from List.append_nil Rr] at kk
    exact kk hP hD hS
  | cons o os ih =>
    obtain ⟨kd, n, f⟩ := o
    intro pc pe fs Rr H locs cells slots hok hl hP hD hS hc hs kk
    obtain ⟨d0, hf, hT, ⟨ty, hty, hcase⟩, p2, idx, hval, dput, hlk, hok⟩ := hok
    refine lv_aload_n hx hb d0 rfl h0 ?_
    match kd, hcase, hval, hc, hs, kk with
    | 0, hcase, hval, hc, hs, kk =>
      obtain ⟨d1, rfl⟩ := hval
      have hc0 := hcase.resolve_right (fun z => z.1 rfl)
      refine lv_iconst (v := 0) hx hb d1 rfl ?_
      refine cn_put hx hb hC hown hin hW hK hP hD hS hf hT hl hlk hty hc0.2.1 hc0.2.2 dput (fun H1 locs1 hP hD hS => ?_)
      exact ih _ pe (fs.set f (.int 0)) Rr H1 locs1 cells slots hok (by rw [List.length_set]; exact hl) hP hD hS hc hs kk
    | 1, hcase, hval, hc, hs, kk =>
      obtain ⟨p1, hpu, hsz, dn, rfl⟩ := hval
      have hc0 := hcase.resolve_left (fun z => by cases z.1)
      have hc : cells + (cn_c os + 1) ≤ R.cells := hc
      have hs : slots + (cn_s os + n) ≤ R.slots := hs
      refine cn_pushW hx hb hpu ?_
      refine cn_newI hx hb hW hK hP hD hS hA hsz (by omega) (by omega) dn (fun q H1 hP hD hS => ?_)
      refine cn_put hx hb hC hown hin hW hK hP hD hS hf hT hl hlk hty (hc0.2 q).1 (hc0.2 q).2 dput (fun H1 locs1 hP hD hS => ?_)
      refine ih _ pe (fs.set f (.ref q)) (Rr ++ [(q, .inl (cI, n, .inl (fun _ => 0)))]) H1 locs1 (cells + 1) (slots + n) hok (by rw [List.length_set]; exact hl) hP hD hS (by omega) (by omega) (fun q1 H1 locs1 hP hD hS => ?_)
      have kk := kk (cn_cons q q1) H1 locs1
      rw [List.append_assoc] at hP hD
      rw [show cells + 1 + cn_c os = cells + cn_c ((1, n, f) :: os) by show cells + 1 + cn_c os = cells + (cn_c os + 1); omega, show slots + n + cn_s os = slots + cn_s ((1, n, f) :: os) by show slots + n + cn_s os = slots + (cn_s os + n); omega]
      exact kk hP hD hS
    | 2, hcase, hval, hc, hs, kk =>
      obtain ⟨p1, hpu, hsz, dn, rfl⟩ := hval
      have hc0 := hcase.resolve_left (fun z => by cases z.1)
      have hc : cells + (cn_c os + 1) ≤ R.cells := hc
      have hs : slots + (cn_s os + n) ≤ R.slots := hs
      refine cn_pushW hx hb hpu ?_
      refine cn_newB hx hb hW hK hP hD hS hA hsz (by omega) (by omega) dn (fun q H1 hP hD hS => ?_)
      refine cn_put hx hb hC hown hin hW hK hP hD hS hf hT hl hlk hty (hc0.2 q).1 (hc0.2 q).2 dput (fun H1 locs1 hP hD hS => ?_)
      refine ih _ pe (fs.set f (.ref q)) (Rr ++ [(q, .inl (cB, n, .inl (fun _ => 0)))]) H1 locs1 (cells + 1) (slots + n) hok (by rw [List.length_set]; exact hl) hP hD hS (by omega) (by omega) (fun q1 H1 locs1 hP hD hS => ?_)
      have kk := kk (cn_cons q q1) H1 locs1
      rw [List.append_assoc] at hP hD
      rw [show cells + 1 + cn_c os = cells + cn_c ((2, n, f) :: os) by show cells + 1 + cn_c os = cells + (cn_c os + 1); omega, show slots + n + cn_s os = slots + cn_s ((2, n, f) :: os) by show slots + n + cn_s os = slots + (cn_s os + n); omega]
      exact kk hP hD hS
    | kd + 3, hcase, hval, hc, hs, kk =>
      obtain ⟨hn, k, hk, d1, rfl⟩ := hval
      have hc0 := hcase.resolve_left (fun z => by cases z.1)
      refine lv_aload_n hx hb d1 hk (hav n hn) ?_
      refine cn_put hx hb hC hown hin hW hK hP hD hS hf hT hl hlk hty (hc0.2 _).1 (hc0.2 _).2 dput (fun H1 locs1 hP hD hS => ?_)
      exact ih _ pe (fs.set f (.ref (av.getD n 0))) Rr H1 locs1 cells slots hok (by rw [List.length_set]; exact hl) hP hD hS hc hs kk
end CNR
