/-! ===== the law's loop ===== -/
section LZL
variable {p : Program} {l : Launch} {e : Env} {s : State} {m : MethodId} {below : List Frame} {meth : Method} {c : Code} {D : va_G} {cI cB : ClassId} {ad : Nat → Nat} {cells slots : Nat} {b L : Nat} {xs : Nat → Int32}
def lz_L (ad : Nat → Nat) (b i : Nat) : List (Nat × Value) := [(3, .int (Int32.ofNat i)), (2, .ref (ad 100)), (1, .ref (ad 0)), (0, .ref b)]
set_option maxHeartbeats 4000000 in
theorem law_step (hL : L ≤ 3072) (C0 : lz_C D cI cB ad p s m c b L xs) (hret : meth.sig.returnType = ret) (hlocks : meth.locks = false) (hc : cells ≤ 600000 ∧ slots ≤ 7302250) {i : Nat} {M N : pz_M} {H : Heap} {locs : List Loc} {ls : Array Slot} (hi0 : i ≤ 3072) (hr : rl M N) (J : lz_J D cI cB ad s M N H locs) (hl : lv_has ls 4 (lz_L ad b i))
    (kk : i + 6 ≤ L → ∀ (M' N' : pz_M) (H' : Heap) (locs' : List Loc) (ls' : Array Slot), rl M' N' → lz_J D cI cB ad s M' N' H' locs' → lv_has ls' 4 (lz_L ad b (i + 6)) → W p l e room_1 s m #[Value.ref b] below meth c H' locs' cells slots (lw_Z below #[Value.ref b] s) (F0 m 18 ls' [])) :
    W p l e room_1 s m #[Value.ref b] below meth c H locs cells slots (lw_Z below #[Value.ref b] s) (F0 m 18 ls []) := by
  obtain ⟨hx, hb, hml, hown, hX, hbl, -⟩ := id C0
  have hS := J.2.2.2.2
  have hbA : ¬ (fun q => s.heap.size ≤ q) b := Nat.not_le.mpr hbl
  have h3 := lv_at hl 0 rfl
  have h2 := lv_at hl 1 rfl
  have h1 := lv_at hl 2 rfl
  have h0 := lv_at hl 3 rfl
  refine lv_iload_n hx hb dl_18 rfl h3 ?_
  refine lv_aload_n hx hb dl_19 rfl h0 ?_
  refine va_slen hx hb hX hbl hbA hS dl_20 ?_
  refine lv_bipush (v := 6) hx hb dl_21 (by decide +kernel) ?_
  refine lv_isub hx hb dl_23 ?_
  refine lv_icmp_gt (tgt := 1083) hx hb dl_24 (by decide) (fun _ => ?_) (fun hgt => ?_)
  · refine lv_iconst (v := 1) hx hb dl_1083 rfl ?_
    refine va_forget hS.2.2 ?_
    refine W.widen (k := 600000) (n := 7302250) hc.1 hc.2 ?_
    exact lw_ret hx hb hret hlocks dl_1084
  · have hi : i + 6 ≤ L := by
      have e1 : Int32.ofNat L - 6 = pzJ ((L : Int) - 6) := by
        show _ = Int32.ofInt _
        rw [Int32.ofInt_sub, show Int32.ofInt (L : Int) = Int32.ofNat L from Int32.ofInt_eq_ofNat ..]
        rfl
      have e2 : (Int32.ofNat i).toInt = (i : Int) := nI_toInt (n := i) (by omega)
      rw [Int32.lt_iff_toInt_lt, e1, jt (by omega) (by omega), e2] at hgt
      omega
    have kK : lz_K p l e s m #[Value.ref b] below meth c (lw_Z below #[Value.ref b] s) D cI cB ad cells slots ls := by
      intro M' N' H' locs' hr' J'
      refine lv_iinc (k := 0) (x := Int32.ofNat i) (v := Int32.ofNat (i + 6)) (lv' := lz_L ad b (i + 6)) hx hb dl_1077 hl rfl (lz_sum i 6) (by decide) rfl (fun ls' hl' => ?_)
      refine lv_goto (tgt := 18) hx hb dl_1080 (by decide) ?_
      exact kk hi M' N' H' locs' ls' hr' J' hl'
    refine lv_aload_n hx hb dl_27 rfl h0 ?_
    refine lv_iload_n hx hb dl_28 rfl h3 ?_
    have hcl : (Int32.ofNat i).toNatClampNeg = i := nI_clamp (n := i) (by omega)
    have hin : vp_in (Int32.ofNat i) L := by
      have e2 : (Int32.ofNat i).toInt = (i : Int) := nI_toInt (n := i) (by omega)
      unfold vp_in
      rw [hcl]
      intro hz
      rcases hz with hz | hz
      · rw [Int32.lt_iff_toInt_lt, e2] at hz
        have : (0 : Int32).toInt = 0 := rfl
        omega
      · omega
    refine va_sld hx hb hX hbl hbA hS hin dl_29 ?_
    refine lv_bipush (v := 31) hx hb dl_30 (by decide +kernel) ?_
    refine lv_iand hx hb dl_32 ?_
    refine lv_topi (fun y _ => ?_)
    by_cases hout : y.toInt < 0 ∨ 28 < y.toInt
    · refine lv_tableOut (tgt := 1077) hx hb dl_33 hout (by decide) ?_
      exact kK M N H locs hr J
    have hy : y.toInt = 0 ∨ y.toInt = 1 ∨ y.toInt = 2 ∨ y.toInt = 3 ∨ y.toInt = 4 ∨ y.toInt = 5 ∨ y.toInt = 6 ∨ y.toInt = 7 ∨ y.toInt = 8 ∨ y.toInt = 9 ∨ y.toInt = 10 ∨ y.toInt = 11 ∨ y.toInt = 12 ∨ y.toInt = 13 ∨ y.toInt = 14 ∨ y.toInt = 15 ∨ y.toInt = 16 ∨ y.toInt = 17 ∨ y.toInt = 18 ∨ y.toInt = 19 ∨ y.toInt = 20 ∨ y.toInt = 21 ∨ y.toInt = 22 ∨ y.toInt = 23 ∨ y.toInt = 24 ∨ y.toInt = 25 ∨ y.toInt = 26 ∨ y.toInt = 27 ∨ y.toInt = 28 := by omega
    rcases hy with h | h | h | h | h | h | h | h | h | h | h | h | h | h | h | h | h | h | h | h | h | h | h | h | h | h | h | h | h
    · exact lv_tableIn (off := 131) (tgt := 164) hx hb dl_33 (by omega) (by omega) (by rw [h]; rfl) (by decide) (lc_0 hr C0 J hc hl.1 h0 h1 h2 h3 hi hL kK)
    · exact lv_tableIn (off := 164) (tgt := 197) hx hb dl_33 (by omega) (by omega) (by rw [h]; rfl) (by decide) (lc_1 hr C0 J hc hl.1 h0 h1 h2 h3 hi hL kK)
    · exact lv_tableIn (off := 227) (tgt := 260) hx hb dl_33 (by omega) (by omega) (by rw [h]; rfl) (by decide) (lc_2 hr C0 J hc hl.1 h0 h1 h2 h3 hi hL kK)
    · exact lv_tableIn (off := 250) (tgt := 283) hx hb dl_33 (by omega) (by omega) (by rw [h]; rfl) (by decide) (lc_3 hr C0 J hc hl.1 h0 h1 h2 h3 hi hL kK)
    · exact lv_tableIn (off := 273) (tgt := 306) hx hb dl_33 (by omega) (by omega) (by rw [h]; rfl) (by decide) (lc_4 hr C0 J hc hl.1 h0 h1 h2 h3 hi hL kK)
    · exact lv_tableIn (off := 316) (tgt := 349) hx hb dl_33 (by omega) (by omega) (by rw [h]; rfl) (by decide) (lc_5 hr C0 J hc hl.1 h0 h1 h2 h3 hi hL kK)
    · exact lv_tableIn (off := 339) (tgt := 372) hx hb dl_33 (by omega) (by omega) (by rw [h]; rfl) (by decide) (lc_6 hr C0 J hc hl.1 h0 h1 h2 h3 hi hL kK)
    · exact lv_tableIn (off := 372) (tgt := 405) hx hb dl_33 (by omega) (by omega) (by rw [h]; rfl) (by decide) (lc_7 hr C0 J hc hl.1 h0 h1 h2 h3 hi hL kK)
    · exact lv_tableIn (off := 405) (tgt := 438) hx hb dl_33 (by omega) (by omega) (by rw [h]; rfl) (by decide) (lc_8 hr C0 J hc hl.1 h0 h1 h2 h3 hi hL kK)
    · exact lv_tableIn (off := 438) (tgt := 471) hx hb dl_33 (by omega) (by omega) (by rw [h]; rfl) (by decide) (lc_9 hr C0 J hc hl.1 h0 h1 h2 h3 hi hL kK)
    · exact lv_tableIn (off := 471) (tgt := 504) hx hb dl_33 (by omega) (by omega) (by rw [h]; rfl) (by decide) (lc_10 hr C0 J hc hl.1 h0 h1 h2 h3 hi hL kK)
    · exact lv_tableIn (off := 494) (tgt := 527) hx hb dl_33 (by omega) (by omega) (by rw [h]; rfl) (by decide) (lc_11 hr C0 J hc hl.1 h0 h1 h2 h3 hi hL kK)
    · exact lv_tableIn (off := 517) (tgt := 550) hx hb dl_33 (by omega) (by omega) (by rw [h]; rfl) (by decide) (lc_12 hr C0 J hc hl.1 h0 h1 h2 h3 hi hL kK)
    · exact lv_tableIn (off := 530) (tgt := 563) hx hb dl_33 (by omega) (by omega) (by rw [h]; rfl) (by decide) (lc_13 hr C0 J hc hl.1 h0 h1 h2 h3 hi hL kK)
    · exact lv_tableIn (off := 563) (tgt := 596) hx hb dl_33 (by omega) (by omega) (by rw [h]; rfl) (by decide) (lc_14 hr C0 J hc hl.1 h0 h1 h2 h3 hi hL kK)
    · exact lv_tableIn (off := 586) (tgt := 619) hx hb dl_33 (by omega) (by omega) (by rw [h]; rfl) (by decide) (lc_15 hr C0 J hc hl.1 h0 h1 h2 h3 hi hL kK)
    · exact lv_tableIn (off := 609) (tgt := 642) hx hb dl_33 (by omega) (by omega) (by rw [h]; rfl) (by decide) (lc_16 hr C0 J hc hl.1 h0 h1 h2 h3 hi hL kK)
    · exact lv_tableIn (off := 678) (tgt := 711) hx hb dl_33 (by omega) (by omega) (by rw [h]; rfl) (by decide) (lc_17 hr C0 J hc hl.1 h0 h1 h2 h3 hi hL kK)
    · exact lv_tableIn (off := 721) (tgt := 754) hx hb dl_33 (by omega) (by omega) (by rw [h]; rfl) (by decide) (lc_18 hr C0 J hc hl.1 h0 h1 h2 h3 hi hL kK)
    · exact lv_tableIn (off := 754) (tgt := 787) hx hb dl_33 (by omega) (by omega) (by rw [h]; rfl) (by decide) (lc_19 hr C0 J hc hl.1 h0 h1 h2 h3 hi hL kK)
    · exact lv_tableIn (off := 797) (tgt := 830) hx hb dl_33 (by omega) (by omega) (by rw [h]; rfl) (by decide) (lc_20 hr C0 J hc hl.1 h0 h1 h2 h3 hi hL kK)
    · exact lv_tableIn (off := 840) (tgt := 873) hx hb dl_33 (by omega) (by omega) (by rw [h]; rfl) (by decide) (lc_21 hr C0 J hc hl.1 h0 h1 h2 h3 hi hL kK)
    · exact lv_tableIn (off := 883) (tgt := 916) hx hb dl_33 (by omega) (by omega) (by rw [h]; rfl) (by decide) (lc_22 hr C0 J hc hl.1 h0 h1 h2 h3 hi hL kK)
    · exact lv_tableIn (off := 916) (tgt := 949) hx hb dl_33 (by omega) (by omega) (by rw [h]; rfl) (by decide) (lc_23 hr C0 J hc hl.1 h0 h1 h2 h3 hi hL kK)
    · exact lv_tableIn (off := 949) (tgt := 982) hx hb dl_33 (by omega) (by omega) (by rw [h]; rfl) (by decide) (lc_24 hr C0 J hc hl.1 h0 h1 h2 h3 hi hL kK)
    · exact lv_tableIn (off := 972) (tgt := 1005) hx hb dl_33 (by omega) (by omega) (by rw [h]; rfl) (by decide) (lc_25 hr C0 J hc hl.1 h0 h1 h2 h3 hi hL kK)
    · exact lv_tableIn (off := 985) (tgt := 1018) hx hb dl_33 (by omega) (by omega) (by rw [h]; rfl) (by decide) (lc_26 hr C0 J hc hl.1 h0 h1 h2 h3 hi hL kK)
    · exact lv_tableIn (off := 998) (tgt := 1031) hx hb dl_33 (by omega) (by omega) (by rw [h]; rfl) (by decide) (lc_27 hr C0 J hc hl.1 h0 h1 h2 h3 hi hL kK)
    · exact lv_tableIn (off := 1021) (tgt := 1054) hx hb dl_33 (by omega) (by omega) (by rw [h]; rfl) (by decide) (lc_28 hr C0 J hc hl.1 h0 h1 h2 h3 hi hL kK)
theorem lz_loop (hL : L ≤ 3072) (C0 : lz_C D cI cB ad p s m c b L xs) (hret : meth.sig.returnType = ret) (hlocks : meth.locks = false) (hc : cells ≤ 600000 ∧ slots ≤ 7302250) : ∀ (n i : Nat) (M N : pz_M) (H : Heap) (locs : List Loc) (ls : Array Slot), L < i + n → i ≤ 3072 → rl M N → lz_J D cI cB ad s M N H locs → lv_has ls 4 (lz_L ad b i) → W p l e room_1 s m #[Value.ref b] below meth c H locs cells slots (lw_Z below #[Value.ref b] s) (F0 m 18 ls []) := by
  intro n
  induction n with
  | zero =>
    intro i M N H locs ls hn hi hr J hl
    exact law_step hL C0 hret hlocks hc hi hr J hl (fun h => absurd h (by omega))
  | succ n ih =>
    intro i M N H locs ls hn hi hr J hl
    exact law_step hL C0 hret hlocks hc hi hr J hl (fun h M' N' H' locs' ls' hr' J' hl' => ih (i + 6) M' N' H' locs' ls' (by omega) (by omega) hr' J' hl')
end LZL
