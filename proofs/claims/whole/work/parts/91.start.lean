/-! ===== the law's start ===== -/
theorem lz_W {b : Nat} {s : State} (hts : ∀ w ∈ lw_tbl, w.before #[Value.ref b] s = true) : pz_W s := by
  intro w hw hg
  rcases pz_good_cases hg with h1 | ⟨a, i, b, n, d, x, rfl⟩ | ⟨a, i, y, x, rfl⟩
  · exact word_at (State.WarmedH.refl s) (good_of_word h1) (hts w hw)
  · exact va_Nw.use rfl (hts _ hw)
  · exact va_Nw.use rfl (hts _ hw)
theorem lz_arr {args : Array Value} {s : State} {ty : FieldType} (h : (Cond.arrayClass ty).before args s = true) : ∃ cA, ArrOfT s cA ty ∧ s.vm.findClass ("[" ++ ty.toString) = some cA := by
  obtain ⟨cA, kA, comp, h1, h2, h3⟩ := Cond.arrayClass_spec h
  exact ⟨cA, fun n z => ⟨fun k h => (by cases h), kA, h2, comp, h3⟩, h1⟩
def lz_ad (ad1 ad2 : Nat → Nat) (u : Nat) (aK aV : Nat → Nat) : Nat → Nat := fun k => if k < 64 then ad1 k else if k < 81 then u else if k < 86 then aK (k - 81) else if k < 91 then aV (k - 86) else ad2 k
theorem lz_known {b : Nat} {s : State} (hts : ∀ w ∈ lw_tbl, w.before #[Value.ref b] s = true) : ∃ D : va_G, ∀ (k : Nat) (q : vw_C), pz_CL[k]? = some q → u_Kn s q.1 q.2.1 q.2.2 (D.1 k) (D.2 k) := by
  obtain ⟨c0, i0, h0⟩ := u_known (C := RX0) (T := TX0) (N := 4) (n := 4) hts (fun w hw => (cc_0.2.2.1 w hw).1) (hts _ wi_X0)
  obtain ⟨c1, i1, h1⟩ := u_known (C := RX1) (T := TX1) (N := 6) (n := 6) hts (fun w hw => (cc_1.2.2.1 w hw).1) (hts _ wi_X1)
  obtain ⟨c2, i2, h2⟩ := u_known (C := RX2) (T := TX2) (N := 10) (n := 10) hts (fun w hw => (cc_2.2.2.1 w hw).1) (hts _ wi_X2)
  obtain ⟨c3, i3, h3⟩ := u_known (C := RX1) (T := TX1) (N := 6) (n := 6) hts (fun w hw => (cc_3.2.2.1 w hw).1) (hts _ wi_X1)
  obtain ⟨c4, i4, h4⟩ := u_known (C := RX4) (T := TX4) (N := 4) (n := 4) hts (fun w hw => (cc_4.2.2.1 w hw).1) (hts _ wi_X4)
  obtain ⟨c5, i5, h5⟩ := u_known (C := RX5) (T := TX5) (N := 5) (n := 5) hts (fun w hw => (cc_5.2.2.1 w hw).1) (hts _ wi_X5)
  obtain ⟨c6, i6, h6⟩ := u_known (C := RX7) (T := TX7) (N := 5) (n := 5) hts (fun w hw => (cc_6.2.2.1 w hw).1) (hts _ wi_X7)
  obtain ⟨c7, i7, h7⟩ := u_known (C := RX8) (T := TX8) (N := 3) (n := 3) hts (fun w hw => (cc_7.2.2.1 w hw).1) (hts _ wi_X8)
  obtain ⟨c8, i8, h8⟩ := u_known (C := RX9) (T := TX9) (N := 5) (n := 5) hts (fun w hw => (cc_8.2.2.1 w hw).1) (hts _ wi_X9)
  obtain ⟨c9, i9, h9⟩ := u_known (C := RX10) (T := TX10) (N := 7) (n := 7) hts (fun w hw => (cc_9.2.2.1 w hw).1) (hts _ wi_X10)
  obtain ⟨c10, i10, h10⟩ := u_known (C := RX11) (T := TX11) (N := 14) (n := 14) hts (fun w hw => (cc_10.2.2.1 w hw).1) (hts _ wi_X11)
  obtain ⟨c11, i11, h11⟩ := u_known (C := RX12) (T := TX12) (N := 50) (n := 50) hts (fun w hw => (cc_11.2.2.1 w hw).1) (hts _ wi_X12)
  refine ⟨(fun k => [c0, c1, c2, c3, c4, c5, c6, c7, c8, c9, c10, c11].getD k c0, fun k => [i0, i1, i2, i3, i4, i5, i6, i7, i8, i9, i10, i11].getD k i0), ?_⟩
  intro k q hq
  match k, hq with
  | 0, hq => cases hq; exact h0
  | 1, hq => cases hq; exact h1
  | 2, hq => cases hq; exact h2
  | 3, hq => cases hq; exact h3
  | 4, hq => cases hq; exact h4
  | 5, hq => cases hq; exact h5
  | 6, hq => cases hq; exact h6
  | 7, hq => cases hq; exact h7
  | 8, hq => cases hq; exact h8
  | 9, hq => cases hq; exact h9
  | 10, hq => cases hq; exact h10
  | 11, hq => cases hq; exact h11
  | k + 12, hq => simp [pz_CL] at hq
set_option maxHeartbeats 4000000 in
set_option maxRecDepth 100000 in
/-- YOUR PART: from the entry, for every script of at most 3072 ints, the law comes to its end with true ('hflags': the launch's flags, for a law that throws: no stack traces) -/
theorem whole_start {p : Program} {e : Env} {s : State} {m : MethodId} {below : List Frame} {meth : Method} {c : Code} (l : Launch) (hflags : l.flags = flags0) {b L : Nat} {xs : Nat → Int32} (hL : L ≤ 3072) (C0 : lw_At p s m meth c b L xs) : W p l e room_1 s m #[Value.ref b] below meth c s.heap [] 0 0 (lw_Z below #[Value.ref b] s) (entryFrame m ([Value.ref b] : List Value).toArray 4) := by
  obtain ⟨hx, hb, hr, hml, hown, hts, hX, hbl, hlocks, hgv⟩ := id C0
  have hA : ∀ q : Nat, s.heap.size ≤ q → (fun q : Nat => s.heap.size ≤ q) q := fun _ h => h
  have hW := lz_W hts
  obtain ⟨D, hKc⟩ := lz_known hts
  obtain ⟨cI, fI1, fI2⟩ := lz_arr (hts (Cond.arrayClass .int) (pz_tb (List.mem_of_getElem? (i := 64) (by decide +kernel))))
  obtain ⟨cB, fB1, fB2⟩ := lz_arr (hts (Cond.arrayClass .byte) (pz_tb (List.mem_of_getElem? (i := 461) (by decide +kernel))))
  have hK : va_K D pz_CL [(cI, .int), (cB, .byte)] s := by
    refine ⟨hKc, fun k q hq => ?_⟩
    match k, hq with
    | 0, hq => cases hq; exact ⟨fI1, fI2⟩
    | 1, hq => cases hq; exact ⟨fB1, fB2⟩
    | k + 2, hq => simp at hq
  obtain ⟨u, aK, aV, z1, z2, z3, z4, z5, z6⟩ := lz_prem (A := fun q : Nat => s.heap.size ≤ q) hgv hts (fun a h => Nat.not_le.mpr h)
  have hS : va_S (fun q : Nat => s.heap.size ≤ q) s.heap s.heap [] := va_S.rf
  have hP : va_P D pz_CL [] s.heap := fun k q h => by simp at h
  have hD : va_D (fun q : Nat => s.heap.size ≤ q) [] := ⟨fun i j p q h => by simp at h, fun k q h => by simp at h⟩
  have hl := lv_entry ([.ref b]) (n := 4) (Nat.le_of_ble_eq_true rfl)
  rw [lg_entry_eq]
  generalize (lg_sl ([.ref b]) ++ List.replicate (4 - (lg_sl ([.ref b])).length) Slot.unset).toArray = ls at hl ⊢
  have hl : lv_has ls 4 [(0, .ref b)] := hl
  refine cn_new (own := "PeacockDeskLaw") (dfs := df_X11) (cI := cI) (cB := cB) hx hb cc_10 hown hW hK hP hD hS hA (pz_tb (List.mem_of_getElem? (i := 22) (by decide +kernel))) wi_X11 wz_X11 tyX11_ok dv_X11 (Nat.le_of_ble_eq_true rfl) (Nat.le_of_ble_eq_true rfl) dl_0 dl_3 (fun o1 H hP hD hS => ?_)
  refine lz_make (φ := fun ad => ad 0 = o1) (w := fun ad => pz_ws true cI cB ad m0X) (rest := [.ref o1]) (own := "PeacockDeskLaw") hx hb hml hl.1 hown hW hK hA (c_desk l D cI cB o1 H.size) ⟨rfl, rfl, Nat.le_of_ble_eq_true rfl, Nat.le_of_ble_eq_true rfl⟩ (pz_tb (List.mem_of_getElem? (i := 24) (by decide +kernel))) wc_X11 wz_X11 wn_X11 rfl (by decide) np_X11 (Nat.le_of_ble_eq_true rfl) (Nat.le_of_ble_eq_true rfl) (Nat.le_of_ble_eq_true rfl) hP hD hS dl_4 (fun ad1 H locs f1 hP hD hS => ?_)
  refine lv_astore_n (lv' := [(1, .ref o1), (0, .ref b)]) hx hb dl_7 rfl hl (by decide) rfl (fun ls hl => ?_)
  refine cn_new (own := "PeacockDeskLaw") (dfs := df_X12) (cI := cI) (cB := cB) hx hb cc_11 hown hW hK hP hD hS hA (pz_tb (List.mem_of_getElem? (i := 919) (by decide +kernel))) wi_X12 wz_X12 tyX12_ok dv_X12 (Nat.le_of_ble_eq_true rfl) (Nat.le_of_ble_eq_true rfl) dl_8 dl_11 (fun o2 H hP hD hS => ?_)
  refine lz_make (φ := fun ad => ad 100 = o2) (w := fun ad => pz_ws false cI cB ad n0Y) (rest := [.ref o2]) (own := "PeacockDeskLaw") hx hb hml hl.1 hown hW hK hA (c_model l D cI cB o2 H.size) ⟨rfl, rfl, Nat.le_of_ble_eq_true rfl, Nat.le_of_ble_eq_true rfl⟩ (pz_tb (List.mem_of_getElem? (i := 921) (by decide +kernel))) wc_X12 wz_X12 wn_X12 rfl (by decide) np_X12 (Nat.le_of_ble_eq_true rfl) (Nat.le_of_ble_eq_true rfl) (Nat.le_of_ble_eq_true rfl) hP hD hS dl_12 (fun ad2 H locs f2 hP hD hS => ?_)
  refine lv_astore_n (lv' := [(2, .ref o2), (1, .ref o1), (0, .ref b)]) hx hb dl_15 rfl hl (by decide) rfl (fun ls hl => ?_)
  refine lv_iconst (v := 0) hx hb dl_16 rfl ?_
  refine lv_istore_n (lv' := [(3, .int 0), (2, .ref o2), (1, .ref o1), (0, .ref b)]) hx hb dl_17 rfl hl (by decide) rfl (fun ls hl => ?_)
  refine W.widen (k := 600000) (n := 7302250) (Nat.le_of_ble_eq_true rfl) (Nat.le_of_ble_eq_true rfl) ?_
  have e1 : ∀ j, j < 64 → lz_ad ad1 ad2 u aK aV j = ad1 j := fun j h => by unfold lz_ad; rw [if_pos h]
  have e2 : ∀ j, j < 33 → lz_ad ad1 ad2 u aK aV (100 + j) = ad2 (100 + j) := fun j h => by unfold lz_ad; rw [if_neg (by omega), if_neg (by omega), if_neg (by omega), if_neg (by omega)]
  have e3 : lz_ad ad1 ad2 u aK aV 80 = u := rfl
  have e4 : ∀ i, i < 5 → lz_ad ad1 ad2 u aK aV (81 + i) = aK i := fun i h => by unfold lz_ad; rw [if_neg (by omega), if_neg (by omega), if_pos (by omega), show 81 + i - 81 = i by omega]
  have e5 : ∀ i, i < 5 → lz_ad ad1 ad2 u aK aV (86 + i) = aV i := fun i h => by unfold lz_ad; rw [if_neg (by omega), if_neg (by omega), if_neg (by omega), if_pos (by omega), show 86 + i - 86 = i by omega]
  have hP : va_P D pz_CL (pz_ws true cI cB (lz_ad ad1 ad2 u aK aV) m0X ++ pz_ws false cI cB (lz_ad ad1 ad2 u aK aV) n0Y) H := by rw [dk_same e1, md_same e2]; exact hP
  have hD : va_D (fun q : Nat => s.heap.size ≤ q) (pz_ws true cI cB (lz_ad ad1 ad2 u aK aV) m0X ++ pz_ws false cI cB (lz_ad ad1 ad2 u aK aV) n0Y) := by rw [dk_same e1, md_same e2]; exact hD
  have ea : lz_ad ad1 ad2 u aK aV 0 = o1 := (e1 0 (by decide)).trans f1
  have eb : lz_ad ad1 ad2 u aK aV 100 = o2 := (e2 0 (by decide)).trans f2
  have hE : pz_E (fun q => s.heap.size ≤ q) (lz_ad ad1 ad2 u aK aV) s s.heap := by
    refine ⟨z1, z2, z3, z4, ⟨fun i hi => ?_, fun i j hi hj h => ?_⟩, fun i hi => ?_⟩
    · show va_O "java/lang/String" (lz_ad ad1 ad2 u aK aV (81 + i)) _ s s.heap ∧ va_OF _ _ _ _ (lz_ad ad1 ad2 u aK aV (81 + i)) _ s s.heap ∧ va_OF _ _ _ (.ref (lz_ad ad1 ad2 u aK aV (86 + i))) (lz_ad ad1 ad2 u aK aV (81 + i)) _ s s.heap ∧ va_T _ (lz_ad ad1 ad2 u aK aV (86 + i)) _ _ _ s s.heap
      rw [e4 i hi, e5 i hi]
      exact z5.1 i hi
    · have h : lz_ad ad1 ad2 u aK aV (81 + i) = lz_ad ad1 ad2 u aK aV (81 + j) := h
      rw [e4 i hi, e4 j hj] at h
      exact z5.2 i j hi hj h
    · rw [e4 i hi]
      exact z6 i hi
  generalize lz_ad ad1 ad2 u aK aV = ad at hP hD ea eb hE
  obtain ⟨k1, k2, k3, k4, k5, k6, k7⟩ := lz_split hP hD
  have hl : lv_has ls 4 (lz_L ad b 0) := by
    unfold lz_L
    rw [ea, eb]
    exact hl
  exact lz_loop hL ⟨hx, hb, hml, hown, hX, hbl, hW, hK, hE, k3, k4, k5, k6, k7⟩ hr hlocks ⟨Nat.le_refl _, Nat.le_refl _⟩ (L + 1) 0 m0X n0Y H _ ls (by omega) (by omega) rl_first ⟨k1, k2, m0X_in, n0Y_in, hS⟩ hl
