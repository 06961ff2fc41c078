/-! ===== a case of the law ===== -/
theorem lz_Z {C n d : String} {v : Value} {A B : Nat → Prop} {U : State} {H : Heap} (hBA : ∀ q, B q → A q) (h : va_Z C n d v A U H) : va_Z C n d v B U H := by
  obtain ⟨cf, kf, fi, f, a, cell, h1, h2, h3, h4, h5, h6, h7, h8⟩ := h
  exact ⟨cf, kf, fi, f, a, cell, h1, h2, h3, h4, h5, h6, h7, fun z => h8 (hBA a z)⟩
theorem lz_T {ty : FieldType} {t N : Nat} {f : Nat → Value} {A B : Nat → Prop} {U : State} {H : Heap} (hBA : ∀ q, B q → A q) (h : va_T ty t N f A U H) : va_T ty t N f B U H := by
  obtain ⟨cell, h1, h2, h3, h4, h5, h6, h7⟩ := h
  exact ⟨cell, h1, h2, h3, h4, h5, h6, fun z => h7 (hBA t z)⟩
theorem lz_O {E : String} {t : Nat} {A B : Nat → Prop} {U : State} {H : Heap} (hBA : ∀ q, B q → A q) (h : va_O E t A U H) : va_O E t B U H := by
  obtain ⟨cell, h1, h2, h3, h4⟩ := h
  exact ⟨cell, h1, h2, h3, fun z => h4 (hBA t z)⟩
theorem lz_OF {o n d : String} {v : Value} {t : Nat} {A B : Nat → Prop} {U : State} {H : Heap} (hBA : ∀ q, B q → A q) (h : va_OF o n d v t A U H) : va_OF o n d v t B U H := by
  obtain ⟨cf, k, i, f, cell, h1, h2, h3, h4, h5, h6⟩ := h
  exact ⟨cf, k, i, f, cell, h1, h2, h3, h4, h5, fun z => h6 (hBA t z)⟩
theorem lz_E {A B : Nat → Prop} {ad : Nat → Nat} {U : State} {H : Heap} (hBA : ∀ q, B q → A q) (h : pz_E A ad U H) : pz_E B ad U H := by
  obtain ⟨h1, h2, h3, h4, h5, h6⟩ := h
  refine ⟨lz_Z hBA h1, lz_T hBA h2, lz_Z hBA h3, ?_, ⟨fun i hi => ?_, h5.2⟩, h6⟩
  · rcases h4 with h4 | ⟨t, h4⟩
    · exact Or.inl (lz_Z hBA h4)
    · exact Or.inr ⟨t, lz_Z hBA h4⟩
  · obtain ⟨a1, a2, a3, a4⟩ := h5.1 i hi
    exact ⟨lz_O hBA a1, lz_OF hBA a2, lz_OF hBA a3, lz_T hBA a4⟩
def lz_C (D : va_G) (cI cB : ClassId) (ad : Nat → Nat) (p : Program) (s : State) (m : MethodId) (c : Code) (b L : Nat) (xs : Nat → Int32) : Prop :=
  p.tables.exec = Jvm.exec ∧ c.code = code ∧ c.maxLocals = 4 ∧ s.vm.findClass "PeacockDeskLaw" = some m.cls ∧ va_X b L xs s s.heap ∧ b < s.heap.size ∧ pz_W s ∧ va_K D pz_CL [(cI, .int), (cB, .byte)] s ∧ pz_E (fun q => s.heap.size ≤ q) ad s s.heap ∧ pz_inj true ad ∧ pz_inj false ad ∧ (∀ q, pz_Ar true ad q → s.heap.size ≤ q) ∧ (∀ q, pz_Ar false ad q → s.heap.size ≤ q) ∧ (∀ q, pz_Ar true ad q → ¬ pz_Ar false ad q)
def lz_J (D : va_G) (cI cB : ClassId) (ad : Nat → Nat) (s : State) (M N : pz_M) (H : Heap) (locs : List Loc) : Prop :=
  va_P D pz_CL (pz_ws true cI cB ad M) H ∧ va_P D pz_CL (pz_ws false cI cB ad N) H ∧ (∀ k i, pz_in (M k i)) ∧ (∀ k i, pz_in (N k i)) ∧ va_S (fun q => s.heap.size ≤ q) s.heap H locs
def lz_row (js : Nat → Prop) (mid d idx na : Nat) (row : pz_Row) (cls : String) : Prop := js mid ∧ pz_T[mid]? = some row ∧ 3 ≤ d ∧ d ≤ 100 ∧ na + 1 ≤ rw_n row ∧ rw_n row ≤ 40 ∧ (rw_y row).cls = cls ∧ Cond.methodLink "PeacockDeskLaw" idx (rw_y row) ∈ lw_tbl ∧ Cond.instanceMethod (rw_y row) ∈ lw_tbl ∧ Cond.selects (rw_y row).cls (rw_y row) (rw_y row) ∈ lw_tbl ∧ pz_np (rw_y row) na
theorem lz_kept {D : va_G} {cI cB : ClassId} {ad : Nat → Nat} {sd : Bool} {M : pz_M} {H H1 : Heap} {A1 : Nat → Prop} (hP : va_P D pz_CL (pz_ws sd cI cB ad M) H) (hk : ∀ q : Nat, q < H.size → ¬ A1 q → H1[q]? = H[q]?) (hd : ∀ q, pz_Ar sd ad q → ¬ A1 q) : va_P D pz_CL (pz_ws sd cI cB ad M) H1 := by
  refine hP.kept (fun k q hq => ?_)
  have hl := (hP k q hq).lt
  obtain ⟨h1, rfl⟩ := pz_ws_inv hq
  exact hk _ hl (hd _ ⟨k, h1, rfl⟩)
section LZC
variable {p : Program} {l : Launch} {e : Env} {s : State} {m : MethodId} {args : Array Value} {below : List Frame} {meth : Method} {c : Code} {Q : State → Prop} {D : va_G} {cI cB : ClassId} {ad : Nat → Nat} {locs : List Loc} {H : Heap} {cells slots : Nat} {ls : Array Slot} {b L i : Nat} {xs : Nat → Int32} {M N : pz_M}
theorem lz_case (C0 : lz_C D cI cB ad p s m c b L xs) (J : lz_J D cI cB ad s M N H locs) (hc : cells ≤ 600000 ∧ slots ≤ 7302250) (hls : ls.size = 4) (hl0 : ls[0]? = some (.val (.ref b))) (hl1 : ls[1]? = some (.val (.ref (ad 0)))) (hl2 : ls[2]? = some (.val (.ref (ad 100)))) (hl3 : ls[3]? = some (.val (.int (Int32.ofNat i)))) (hi : i + 6 ≤ L) (hL : L ≤ 3072)
    {ks : List (Nat × Nat)} {pc p1 p2 i1 i2 d1 d2 m1 m2 : Nat} {r1 r2 : pz_Row} {off : Int} (x0 : decode code pc = .ok (.aload_n 1, 1)) (o1 : lz_ok code ks (pc + 1) p1) (x1 : decode code p1 = .ok (.invokevirtual i1, 3)) (x2 : decode code (p1 + 3) = .ok (.aload_n 2, 1)) (o2 : lz_ok code ks (p1 + 3 + 1) p2) (x3 : decode code p2 = .ok (.invokevirtual i2, 3)) (x4 : decode code (p2 + 3) = .ok (.if_icmp .eq off, 3)) (hoff : ((p2 + 3 : Nat) : Int) + off = ((1077 : Nat) : Int))
    (w1 : lz_row (fun mid => mid < 138) m1 d1 i1 ks.length r1 RX11) (w2 : lz_row (fun mid => 138 ≤ mid) m2 d2 i2 ks.length r2 RX12) (hag : agree (pzr d1 m1 (0, pz_ent (rw_n r1) (pzR 0 :: lz_as xs i ks), [], M)) (pzr d2 m2 (0, pz_ent (rw_n r2) (pzR 100 :: lz_as xs i ks), [], N)))
    (kk : ∀ (M' N' : pz_M) (H' : Heap) (locs' : List Loc), rl M' N' → lz_J D cI cB ad s M' N' H' locs' → W p l e room_1 s m args below meth c H' locs' cells slots Q (F0 m 1077 ls [])) : W p l e room_1 s m args below meth c H locs cells slots Q (F0 m pc ls []) := by
  obtain ⟨hx, hb, hml, hown, hX, hbl, hW, hK, hE, hj1, hj2, hA1, hA2, hap⟩ := C0
  obtain ⟨hP1, hP2, hM1, hM2, hS⟩ := J
  obtain ⟨a1, a2, a3, a4, a5, a6, a7, a8, a9, a10, a11⟩ := w1
  obtain ⟨b1, b2, b3, b4, b5, b6, b7, b8, b9, b10, b11⟩ := w2
  obtain ⟨r, M', N', g1, g2, hrl⟩ := hag
  obtain ⟨n1, g1⟩ := pz_runT_iff.mp g1
  obtain ⟨n2, g2⟩ := pz_runT_iff.mp g2
  have hbA : ¬ (fun q => s.heap.size ≤ q) b := Nat.not_le.mpr hbl
  have hlas : (lz_as xs i ks).length = ks.length := List.length_map _
  have hG : ∀ (sd : Bool) (H : Heap) (locs : List Loc), va_S (fun q => s.heap.size ≤ q) s.heap H locs → (∀ q, pz_Ar sd ad q → s.heap.size ≤ q) → ∀ U : State, U.heap = H → s.WarmedH U.vm → pz_G sd D cI cB ad U := fun sd H locs hS hA U hU hWm =>
    ⟨hW.warm hWm, va_K.moved hWm.alike hK, by rw [hU]; exact (lz_E hA (hE.kept hS.2.1)).warm hWm⟩
  have hc1 : ∃ cellB : Cell, H[ad 0]? = some cellB ∧ cellB.vm.isStatics = false ∧ s.vm.findClass (rw_y r1).cls = some cellB.cls := by
    obtain ⟨j, q1, q2, q3⟩ := pz_obj_at (cI := cI) (cB := cB) (ad := ad) (M := M) (k := 0) (sd := true) (by decide) (by decide)
    rw [a7]
    exact va_recv hK hP1 (show pz_CL[10]? = some (RX11, TX11, 14) from rfl) q3
  refine lv_aload_n hx hb x0 rfl hl1 ?_
  refine lz_args (ad := ad) hx hb hX hbl hbA hS hi hL hl0 hl3 ks (pc + 1) p1 [.ref (ad 0)] o1 ?_
  refine lz_call (sd := true) (cI := cI) (cB := cB) (D := D) (k := 0) (rest := []) (own := "PeacockDeskLaw") pz_tabX a1 a2 g1 a3 (show d1 + 1 ≤ 2048 by omega) (show 8 + (rw_n r1 + 11) + 128 * d1 ≤ 84000 by omega) (by rw [hlas]; exact a5) lz_as_ok hx hb hml hls hown hW (hG true H locs hS hA1) hj1 hM1 hP1 hc1 a8 a9 a10 (by rw [hlas]; exact a11) x1 (by decide) hS hA1 hc (fun H1 locs1 hP1 _ hM1 hS1 hk1 => ?_)
  have hP2 := lz_kept hP2 hk1 (fun q h1 h2 => hap q h2 h1)
  have hc2 : ∃ cellB : Cell, H1[ad 100]? = some cellB ∧ cellB.vm.isStatics = false ∧ s.vm.findClass (rw_y r2).cls = some cellB.cls := by
    obtain ⟨j, q1, q2, q3⟩ := pz_obj_at (cI := cI) (cB := cB) (ad := ad) (M := N) (k := 100) (sd := false) (by decide) (by decide)
    rw [b7]
    exact va_recv hK hP2 (show pz_CL[11]? = some (RX12, TX12, 50) from rfl) q3
  refine lv_aload_n hx hb x2 rfl hl2 ?_
  refine lz_args (ad := ad) hx hb hX hbl hbA hS1 hi hL hl0 hl3 ks (p1 + 3 + 1) p2 _ o2 ?_
  refine lz_call (sd := false) (cI := cI) (cB := cB) (D := D) (k := 100) (rest := [.int (Int32.ofInt r)]) (own := "PeacockDeskLaw") pz_tabY b1 b2 g2 b3 (show d2 + 1 ≤ 2048 by omega) (show 8 + (rw_n r2 + 11) + 128 * d2 ≤ 84000 by omega) (by rw [hlas]; exact b5) lz_as_ok hx hb hml hls hown hW (hG false H1 locs1 hS1 hA2) hj2 hM2 hP2 hc2 b8 b9 b10 (by rw [hlas]; exact b11) x3 (Nat.le_of_ble_eq_true rfl) hS1 hA2 hc (fun H2 locs2 hP2 _ hM2 hS2 hk2 => ?_)
  have hP1 := lz_kept hP1 hk2 hap
  refine lv_icmp_eq (x := Int32.ofInt r) (y := Int32.ofInt r) (tgt := 1077) hx hb x4 hoff (fun _ => ?_) (fun hne => absurd rfl hne)
  exact kk M' N' H2 locs2 hrl ⟨hP1, hP2, hM1, hM2, hS2⟩
end LZC
