/-! ===== what the law's start says of constants ===== -/
def lz_tm (i : Nat) : Term := .string "PeacockDesk$LawReader" (pz_six.getD i 0)
theorem lz_prem {args : Array Value} {s : State} {A : Nat → Prop} (hgv : (Jvm.Cond.and given_1 narrow_1).before args s = true) (hts : ∀ w ∈ lw_tbl, w.before args s = true) (hA : ∀ a : Nat, a < s.heap.size → ¬ A a) : ∃ (u : Nat) (aK aV : Nat → Nat),
    va_Z "PeacockDesk$Parties" "ORDERS" "[I" (.ref u) A s s.heap ∧ va_T .int u 8 (fun j => .int (pz_ords.getD j 0)) A s s.heap ∧ va_Z "java/lang/String" "COMPACT_STRINGS" "Z" (.int 1) A s s.heap ∧ va_Zq "jdk/internal/util/Preconditions" "SIOOBE_FORMATTER" "Ljava/util/function/BiFunction;" A s s.heap ∧ vk_S 5 pz_sln pz_sby aK aV A s s.heap ∧ ∀ i, i < 5 → vk_R "PeacockDesk$LawReader" (pz_six.getD i 0) (pz_stx.getD i "") (aK i) s := by
  have hs := flat_of_before _ hgv
  have g1 : ∀ {w : Cond} (k : Nat), tables_1[k]? = some w → w.before args s = true := fun k h => hts _ (pz_tb (List.mem_of_getElem? h))
  obtain ⟨u, hu, hT⟩ := va_Tof (tm := .static "PeacockDesk$Parties" "ORDERS" "[I") (ty := .int) (N := 8) (f := fun j => .int (pz_ords.getD j 0)) (A := A) (by decide) (hs _ (by decide +kernel)) (va_eqt (hs _ (by decide +kernel))) (fun j hj => va_eqt (by
    rcases (show j = 0 ∨ j = 1 ∨ j = 2 ∨ j = 3 ∨ j = 4 ∨ j = 5 ∨ j = 6 ∨ j = 7 by omega) with rfl | rfl | rfl | rfl | rfl | rfl | rfl | rfl <;> exact hs _ (by decide +kernel))) hA
  have h5 : ∀ (P : Nat → Prop), P 0 → P 1 → P 2 → P 3 → P 4 → ∀ i, i < 5 → P i := fun P a0 a1 a2 a3 a4 i hi => by
    rcases (show i = 0 ∨ i = 1 ∨ i = 2 ∨ i = 3 ∨ i = 4 by omega) with rfl | rfl | rfl | rfl | rfl
    · exact a0
    · exact a1
    · exact a2
    · exact a3
    · exact a4
  have hne : ∀ i j : Nat, i < 5 → j < 5 → i ≠ j → (Cond.not (Cond.eq (lz_tm i) (lz_tm j))).before args s = true ∨ (Cond.not (Cond.eq (lz_tm j) (lz_tm i))).before args s = true := by
    intro i j hi hj hij
    rcases (show i = 0 ∨ i = 1 ∨ i = 2 ∨ i = 3 ∨ i = 4 by omega) with rfl | rfl | rfl | rfl | rfl <;> rcases (show j = 0 ∨ j = 1 ∨ j = 2 ∨ j = 3 ∨ j = 4 by omega) with rfl | rfl | rfl | rfl | rfl <;> first
      | exact absurd rfl hij
      | exact Or.inl (hs _ (by decide +kernel))
      | exact Or.inr (hs _ (by decide +kernel))
  have hel : ∀ i : Nat, i < 5 → ∀ j : Nat, j < pz_sln.getD i 0 → (Cond.eq (.elem (.field (lz_tm i) "java/lang/String" "value" "[B") (.int (Int32.ofNat j))) (.int ((pz_sby.getD i []).getD j 0))).before args s = true := by
    refine h5 _ ?_ ?_ ?_ ?_ ?_
    · intro j hj
      have hj : j < 4 := hj
      rcases (show j = 0 ∨ j = 1 ∨ j = 2 ∨ j = 3 by omega) with rfl | rfl | rfl | rfl <;> exact hs _ (by decide +kernel)
    · intro j hj
      have hj : j < 10 := hj
      rcases (show j = 0 ∨ j = 1 ∨ j = 2 ∨ j = 3 ∨ j = 4 ∨ j = 5 ∨ j = 6 ∨ j = 7 ∨ j = 8 ∨ j = 9 by omega) with rfl | rfl | rfl | rfl | rfl | rfl | rfl | rfl | rfl | rfl <;> exact hs _ (by decide +kernel)
    · intro j hj
      have hj : j < 3 := hj
      rcases (show j = 0 ∨ j = 1 ∨ j = 2 by omega) with rfl | rfl | rfl <;> exact hs _ (by decide +kernel)
    · intro j hj
      have hj : j < 3 := hj
      rcases (show j = 0 ∨ j = 1 ∨ j = 2 by omega) with rfl | rfl | rfl <;> exact hs _ (by decide +kernel)
    · intro j hj
      have hj : j < 2 := hj
      rcases (show j = 0 ∨ j = 1 by omega) with rfl | rfl <;> exact hs _ (by decide +kernel)
  obtain ⟨aK, aV, hK, hev⟩ := vk_Sof (tm := lz_tm) (N := 5) (len := pz_sln) (byt := pz_sby) (A := A) (args := args) (s := s) (by decide)
    (h5 _ (hs _ (by decide +kernel)) (hs _ (by decide +kernel)) (hs _ (by decide +kernel)) (hs _ (by decide +kernel)) (hs _ (by decide +kernel)))
    (h5 _ (hs _ (by decide +kernel)) (hs _ (by decide +kernel)) (hs _ (by decide +kernel)) (hs _ (by decide +kernel)) (hs _ (by decide +kernel)))
    (h5 _ (hs _ (by decide +kernel)) (hs _ (by decide +kernel)) (hs _ (by decide +kernel)) (hs _ (by decide +kernel)) (hs _ (by decide +kernel)))
    (h5 _ (hs _ (by decide +kernel)) (hs _ (by decide +kernel)) (hs _ (by decide +kernel)) (hs _ (by decide +kernel)) (hs _ (by decide +kernel)))
    hel hne hA
  have hstr : ∀ i, i < 5 → (Cond.stringRef "PeacockDesk$LawReader" (pz_six.getD i 0) (pz_stx.getD i "")).before #[] s = true ∧ (Term.string "PeacockDesk$LawReader" (pz_six.getD i 0)).eval #[] s none [] s = some (.ref (aK i)) := by
    intro i hi
    refine ⟨?_, hev i hi⟩
    have hr : (Cond.stringRef "PeacockDesk$LawReader" (pz_six.getD i 0) (pz_stx.getD i "")).before args s = true := by
      revert i
      exact h5 _ (g1 353 (by decide +kernel)) (g1 431 (by decide +kernel)) (g1 448 (by decide +kernel)) (g1 440 (by decide +kernel)) (g1 441 (by decide +kernel))
    exact hr
  exact ⟨u, aK, aV, va_Zof (g1 792 (by decide +kernel)) (hts _ (pz_tb (List.mem_of_getElem? (i := 7) (by decide +kernel)))) hu hA, hT, va_Zof (g1 371 (by decide +kernel)) (hts _ (pz_tb (List.mem_of_getElem? (i := 13) (by decide +kernel)))) (va_eqi (hs _ (by decide +kernel))) hA, va_Zqof (g1 387 (by decide +kernel)) (hts _ (pz_tb (List.mem_of_getElem? (i := 15) (by decide +kernel)))) (hs _ (by decide +kernel)) hA, hK, hstr⟩
