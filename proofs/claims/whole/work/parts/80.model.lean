def md_Q (D : va_G) (cI cB : ClassId) (h0 sz : Nat) : Array Value → State → Outcome → State → Prop := va_Qv (S := Nat → Nat) (fun _ => True) (fun ad t => ad 100 = h0 ∧ va_P D pz_CL (pz_ws false cI cB ad n0Y) t.heap ∧ va_D (va_A [(h0, .inr (11, df_X12))] sz) (pz_ws false cI cB ad n0Y)) (va_A [(h0, .inr (11, df_X12))] sz)
set_option maxHeartbeats 4000000 in
set_option maxRecDepth 100000 in
theorem c_model (l : Launch) (D : va_G) (cI cB : ClassId) (h0 sz : Nat) : Met l yX12_init [Cond.code yX12_init cX12_init 1 none] (cn_rm os_X12) (cn_P D cI cB h0 11 df_X12 [] sz) (md_Q D cI cB h0 sz) 32 14252 (va_A [(h0, .inr (11, df_X12))] sz) := by
  refine pz_ofW (cc := cX12_init) (maxL := 1) (ret := none) (by decide) rfl ?_
  intro p e s m args below meth c s₁ B hml hv
  obtain ⟨rfl, hsz, hP, hK, hW⟩ := hv
  have hx := B.exec
  have hb := B.bytes
  have hr := B.returns
  have hown : s.vm.findClass RX12 = some m.cls := findClass_of_methodNamed B.named
  have hlocks := B.notSynchronized
  have hin : meth.name = "<init>" := (name_of_methodNamed B.named B.method).1
  subst hsz
  have hD := cn_one (h0 := h0) (x := .inr (11, df_X12)) (sz := s.heap.size)
  generalize hAe : va_A [(h0, .inr (11, df_X12))] s.heap.size = A at hD ⊢
  have hA : ∀ q : Nat, s.heap.size ≤ q → A q := fun q h => by rw [← hAe]; exact Or.inr h
  have hS : va_S A s.heap s.heap [] := va_S.rf
  rw [lg_entry_eq]
  generalize hls : (lg_sl (Value.ref h0 :: ([] : List Nat).map Value.ref) ++ List.replicate (1 - (lg_sl (Value.ref h0 :: ([] : List Nat).map Value.ref)).length) Slot.unset).toArray = ls
  obtain ⟨e1, e2, e3⟩ := cn_ent (av := []) (Nat.le_refl 1) hls
  refine lv_aload_n hx hb dc_X12_0 rfl e2 ?_
  refine W.objInit hx hb hown (pz_use hW (pz_tb (List.mem_of_getElem? (i := 924) (by decide +kernel))) rfl _) (pz_use hW cn_objI rfl _) (pz_use hW cn_objC rfl _) rfl (by rw [hml]; exact e1) rfl dc_X12_1 (Nat.le_refl 1) (Nat.le_of_ble_eq_true rfl) ?_
  refine W.eq (g2 := F0 m 4 ls []) rfl ?_
  refine cn_run (av := []) hx hb cc_11 hown hin hW hK hA e2 e3 os_X12 4 268 df_X12 [] s.heap [] 0 0 ok_X12 rfl hP hD hS (Nat.le_of_ble_eq_true rfl) (Nat.le_of_ble_eq_true rfl) (fun q H locs hP hD hS => ?_)
  rw [md_fs, md_R, List.nil_append] at hP hD
  obtain ⟨k1, -, k3, -, -, -⟩ := cc_11
  have htd : ∀ w ∈ u_ws RX12 TX12 50, w.before #[Value.ref h0] s = true := fun w hw => pz_use hW (k3 w hw).1 (k3 w hw).2 _
  refine lv_aload_n hx hb dc_X12_268 rfl e2 ?_
  refine va_get (D := D) (ci := 11) (C := RX12) (T := TX12) (N := 50) (v := .ref (q 0)) hx hb htd (fun _ q => q) hown hK hP 0 rfl k1 0 (by decide) (pz_use hW (pz_tb (List.mem_of_getElem? (i := 925) (by decide +kernel))) rfl _) (fun _ q => q) rfl dc_X12_269 ?_
  refine lv_bipush (v := 82) hx hb dc_X12_272 (by decide +kernel) ?_
  refine lv_iconst (v := 1) hx hb dc_X12_274 rfl ?_
  refine va_iast (D := D) (cA := cI) (n := 83) (f := fun _ => 0) hx hb hK hP hD hS 1 0 rfl rfl (show vp_in 82 83 by unfold vp_in; decide +kernel) dc_X12_275 (fun H locs hP hD hS => ?_)
  have hP : va_P D pz_CL (pz_ws false cI cB (md_ad h0 q) n0Y) H := by rw [← md_ws]; exact hP
  have hD : va_D A (pz_ws false cI cB (md_ad h0 q) n0Y) := by rw [← md_ws]; exact hD
  refine W.widen (k := 32) (n := 14252) (Nat.le_of_ble_eq_true rfl) (Nat.le_of_ble_eq_true rfl) ?_
  exact W.vret hx hb hr (fun t ht hW => ⟨⟨md_ad h0 q, rfl, trivial, rfl, by rw [ht]; exact hP, by rw [hAe]; exact hD⟩, by rw [hAe]; exact hS.F ht⟩) hS.2.2 dc_X12_276
