/-! the first memory of the reference -/
def n0Y : pz_M := fun k j => bif Nat.beq k 101 then (bif Nat.beq j 82 then 1 else 0) else 0
theorem cn_idx {β : Type} (f : Nat → Nat → β) (l : List Nat) : l.mapIdx f = (List.range l.length).map (fun j => f j (l.getD j 0)) := by
  apply List.ext_getElem?
  intro i
  rw [List.getElem?_mapIdx, List.getElem?_map]
  by_cases h : i < l.length
  · rw [List.getElem?_range h, List.getElem?_eq_getElem h]
    show some (f i l[i]) = some (f i (l.getD i 0))
    rw [List.getD_eq_getElem?_getD, List.getElem?_eq_getElem h]
    rfl
  · rw [List.getElem?_eq_none (by omega), List.getElem?_eq_none (by rw [List.length_range]; omega)]
    rfl
theorem cn_f0 {ad : Nat → Nat} {M : pz_M} {k j : Nat} : pz_fv ad M k j 0 = .int (Int32.ofInt (M k j)) := rfl
theorem cn_f1 {ad : Nat → Nat} {M : pz_M} {k j : Nat} : pz_fv ad M k j 1 = .ref (ad (pz_ref k j)) := rfl
theorem md_fk : pz_fks.getD (pz_cls 100) [] = [1, 1, 1, 1, 1, 1, 0, 1, 0, 0, 0, 0, 0, 0, 0, 0, 0, 0, 1, 1, 1, 1, 1, 1, 1, 1, 1, 1, 1, 1, 1, 1, 1, 1, 1, 1, 0, 0, 0, 0, 1, 1, 1, 1, 0, 1, 1, 1, 0, 0] := by decide +kernel
theorem md_r_0 : pz_ref 100 0 = 101 := by decide +kernel
theorem md_r_1 : pz_ref 100 1 = 102 := by decide +kernel
theorem md_r_2 : pz_ref 100 2 = 103 := by decide +kernel
theorem md_r_3 : pz_ref 100 3 = 104 := by decide +kernel
theorem md_r_4 : pz_ref 100 4 = 105 := by decide +kernel
theorem md_r_5 : pz_ref 100 5 = 106 := by decide +kernel
theorem md_r_7 : pz_ref 100 7 = 107 := by decide +kernel
theorem md_r_18 : pz_ref 100 18 = 108 := by decide +kernel
theorem md_r_19 : pz_ref 100 19 = 109 := by decide +kernel
theorem md_r_20 : pz_ref 100 20 = 110 := by decide +kernel
theorem md_r_21 : pz_ref 100 21 = 111 := by decide +kernel
theorem md_r_22 : pz_ref 100 22 = 112 := by decide +kernel
theorem md_r_23 : pz_ref 100 23 = 113 := by decide +kernel
theorem md_r_24 : pz_ref 100 24 = 114 := by decide +kernel
theorem md_r_25 : pz_ref 100 25 = 115 := by decide +kernel
theorem md_r_26 : pz_ref 100 26 = 116 := by decide +kernel
theorem md_r_27 : pz_ref 100 27 = 117 := by decide +kernel
theorem md_r_28 : pz_ref 100 28 = 118 := by decide +kernel
theorem md_r_29 : pz_ref 100 29 = 119 := by decide +kernel
theorem md_r_30 : pz_ref 100 30 = 120 := by decide +kernel
theorem md_r_31 : pz_ref 100 31 = 121 := by decide +kernel
theorem md_r_32 : pz_ref 100 32 = 122 := by decide +kernel
theorem md_r_33 : pz_ref 100 33 = 123 := by decide +kernel
theorem md_r_34 : pz_ref 100 34 = 124 := by decide +kernel
theorem md_r_35 : pz_ref 100 35 = 125 := by decide +kernel
theorem md_r_40 : pz_ref 100 40 = 126 := by decide +kernel
theorem md_r_41 : pz_ref 100 41 = 127 := by decide +kernel
theorem md_r_42 : pz_ref 100 42 = 128 := by decide +kernel
theorem md_r_43 : pz_ref 100 43 = 129 := by decide +kernel
theorem md_r_45 : pz_ref 100 45 = 130 := by decide +kernel
theorem md_r_46 : pz_ref 100 46 = 131 := by decide +kernel
theorem md_r_47 : pz_ref 100 47 = 132 := by decide +kernel
theorem md_e_100 (cI cB : ClassId) (ad : Nat → Nat) : pz_cell cI cB ad n0Y 100 = .inr (11, [.ref (ad 101), .ref (ad 102), .ref (ad 103), .ref (ad 104), .ref (ad 105), .ref (ad 106), .int 0, .ref (ad 107), .int 0, .int 0, .int 0, .int 0, .int 0, .int 0, .int 0, .int 0, .int 0, .int 0, .ref (ad 108), .ref (ad 109), .ref (ad 110), .ref (ad 111), .ref (ad 112), .ref (ad 113), .ref (ad 114), .ref (ad 115), .ref (ad 116), .ref (ad 117), .ref (ad 118), .ref (ad 119), .ref (ad 120), .ref (ad 121), .ref (ad 122), .ref (ad 123), .ref (ad 124), .ref (ad 125), .int 0, .int 0, .int 0, .int 0, .ref (ad 126), .ref (ad 127), .ref (ad 128), .ref (ad 129), .int 0, .ref (ad 130), .ref (ad 131), .ref (ad 132), .int 0, .int 0]) := by
  rw [pz_cellO (by decide), md_fk, cn_idx]
  have e : List.map (fun j => pz_fv ad n0Y 100 j (([1, 1, 1, 1, 1, 1, 0, 1, 0, 0, 0, 0, 0, 0, 0, 0, 0, 0, 1, 1, 1, 1, 1, 1, 1, 1, 1, 1, 1, 1, 1, 1, 1, 1, 1, 1, 0, 0, 0, 0, 1, 1, 1, 1, 0, 1, 1, 1, 0, 0] : List Nat).getD j 0)) (List.range 50) = [pz_fv ad n0Y 100 0 1, pz_fv ad n0Y 100 1 1, pz_fv ad n0Y 100 2 1, pz_fv ad n0Y 100 3 1, pz_fv ad n0Y 100 4 1, pz_fv ad n0Y 100 5 1, pz_fv ad n0Y 100 6 0, pz_fv ad n0Y 100 7 1, pz_fv ad n0Y 100 8 0, pz_fv ad n0Y 100 9 0, pz_fv ad n0Y 100 10 0, pz_fv ad n0Y 100 11 0, pz_fv ad n0Y 100 12 0, pz_fv ad n0Y 100 13 0, pz_fv ad n0Y 100 14 0, pz_fv ad n0Y 100 15 0, pz_fv ad n0Y 100 16 0, pz_fv ad n0Y 100 17 0, pz_fv ad n0Y 100 18 1, pz_fv ad n0Y 100 19 1, pz_fv ad n0Y 100 20 1, pz_fv ad n0Y 100 21 1, pz_fv ad n0Y 100 22 1, pz_fv ad n0Y 100 23 1, pz_fv ad n0Y 100 24 1, pz_fv ad n0Y 100 25 1, pz_fv ad n0Y 100 26 1, pz_fv ad n0Y 100 27 1, pz_fv ad n0Y 100 28 1, pz_fv ad n0Y 100 29 1, pz_fv ad n0Y 100 30 1, pz_fv ad n0Y 100 31 1, pz_fv ad n0Y 100 32 1, pz_fv ad n0Y 100 33 1, pz_fv ad n0Y 100 34 1, pz_fv ad n0Y 100 35 1, pz_fv ad n0Y 100 36 0, pz_fv ad n0Y 100 37 0, pz_fv ad n0Y 100 38 0, pz_fv ad n0Y 100 39 0, pz_fv ad n0Y 100 40 1, pz_fv ad n0Y 100 41 1, pz_fv ad n0Y 100 42 1, pz_fv ad n0Y 100 43 1, pz_fv ad n0Y 100 44 0, pz_fv ad n0Y 100 45 1, pz_fv ad n0Y 100 46 1, pz_fv ad n0Y 100 47 1, pz_fv ad n0Y 100 48 0, pz_fv ad n0Y 100 49 0] := rfl
  have e2 : pz_cls 100 = 11 := by decide +kernel
  rw [e2]
  refine congrArg (fun z => Sum.inr (11, z)) (e.trans ?_)
  simp only [cn_f0, cn_f1, md_r_0, md_r_1, md_r_2, md_r_3, md_r_4, md_r_5, md_r_7, md_r_18, md_r_19, md_r_20, md_r_21, md_r_22, md_r_23, md_r_24, md_r_25, md_r_26, md_r_27, md_r_28, md_r_29, md_r_30, md_r_31, md_r_32, md_r_33, md_r_34, md_r_35, md_r_40, md_r_41, md_r_42, md_r_43, md_r_45, md_r_46, md_r_47]
  rfl
theorem md_e_101 (cI cB : ClassId) (ad : Nat → Nat) : pz_cell cI cB ad n0Y 101 = .inl (cI, 83, .inl (upd (fun _ => 0) (82 : Int32).toNatClampNeg 1)) := by
  rw [pz_cellI (by decide)]
  have e : (fun i => Int32.ofInt (n0Y 101 i)) = upd (fun _ => 0) (82 : Int32).toNatClampNeg 1 := by
    funext j
    have h82 : (82 : Int32).toNatClampNeg = 82 := by decide +kernel
    rw [h82]
    show Int32.ofInt (bif Nat.beq j 82 then 1 else 0) = upd (fun _ => 0) 82 1 j
    unfold upd
    by_cases h : j = 82
    · subst h; rfl
    · rw [if_neg h]
      cases hbq : Nat.beq j 82 with
      | true => exact absurd (Nat.eq_of_beq_eq_true hbq) h
      | false => rfl
  rw [e]
  rfl
theorem md_e_102 (cI cB : ClassId) (ad : Nat → Nat) : pz_cell cI cB ad n0Y 102 = .inl (cI, 83, .inl (fun _ => 0)) := by rw [pz_cellI (by decide)]; rfl
theorem md_e_103 (cI cB : ClassId) (ad : Nat → Nat) : pz_cell cI cB ad n0Y 103 = .inl (cI, 83, .inl (fun _ => 0)) := by rw [pz_cellI (by decide)]; rfl
theorem md_e_104 (cI cB : ClassId) (ad : Nat → Nat) : pz_cell cI cB ad n0Y 104 = .inl (cI, 24, .inl (fun _ => 0)) := by rw [pz_cellI (by decide)]; rfl
theorem md_e_105 (cI cB : ClassId) (ad : Nat → Nat) : pz_cell cI cB ad n0Y 105 = .inl (cI, 24, .inl (fun _ => 0)) := by rw [pz_cellI (by decide)]; rfl
theorem md_e_106 (cI cB : ClassId) (ad : Nat → Nat) : pz_cell cI cB ad n0Y 106 = .inl (cI, 24, .inl (fun _ => 0)) := by rw [pz_cellI (by decide)]; rfl
theorem md_e_107 (cI cB : ClassId) (ad : Nat → Nat) : pz_cell cI cB ad n0Y 107 = .inl (cB, 260, .inl (fun _ => 0)) := by rw [pz_cellB (by decide)]; rfl
theorem md_e_108 (cI cB : ClassId) (ad : Nat → Nat) : pz_cell cI cB ad n0Y 108 = .inl (cI, 260, .inl (fun _ => 0)) := by rw [pz_cellI (by decide)]; rfl
theorem md_e_109 (cI cB : ClassId) (ad : Nat → Nat) : pz_cell cI cB ad n0Y 109 = .inl (cI, 260, .inl (fun _ => 0)) := by rw [pz_cellI (by decide)]; rfl
theorem md_e_110 (cI cB : ClassId) (ad : Nat → Nat) : pz_cell cI cB ad n0Y 110 = .inl (cI, 16, .inl (fun _ => 0)) := by rw [pz_cellI (by decide)]; rfl
theorem md_e_111 (cI cB : ClassId) (ad : Nat → Nat) : pz_cell cI cB ad n0Y 111 = .inl (cI, 16, .inl (fun _ => 0)) := by rw [pz_cellI (by decide)]; rfl
theorem md_e_112 (cI cB : ClassId) (ad : Nat → Nat) : pz_cell cI cB ad n0Y 112 = .inl (cI, 16, .inl (fun _ => 0)) := by rw [pz_cellI (by decide)]; rfl
theorem md_e_113 (cI cB : ClassId) (ad : Nat → Nat) : pz_cell cI cB ad n0Y 113 = .inl (cI, 16, .inl (fun _ => 0)) := by rw [pz_cellI (by decide)]; rfl
theorem md_e_114 (cI cB : ClassId) (ad : Nat → Nat) : pz_cell cI cB ad n0Y 114 = .inl (cI, 260, .inl (fun _ => 0)) := by rw [pz_cellI (by decide)]; rfl
theorem md_e_115 (cI cB : ClassId) (ad : Nat → Nat) : pz_cell cI cB ad n0Y 115 = .inl (cI, 16, .inl (fun _ => 0)) := by rw [pz_cellI (by decide)]; rfl
theorem md_e_116 (cI cB : ClassId) (ad : Nat → Nat) : pz_cell cI cB ad n0Y 116 = .inl (cI, 16, .inl (fun _ => 0)) := by rw [pz_cellI (by decide)]; rfl
theorem md_e_117 (cI cB : ClassId) (ad : Nat → Nat) : pz_cell cI cB ad n0Y 117 = .inl (cI, 16, .inl (fun _ => 0)) := by rw [pz_cellI (by decide)]; rfl
theorem md_e_118 (cI cB : ClassId) (ad : Nat → Nat) : pz_cell cI cB ad n0Y 118 = .inl (cI, 16, .inl (fun _ => 0)) := by rw [pz_cellI (by decide)]; rfl
theorem md_e_119 (cI cB : ClassId) (ad : Nat → Nat) : pz_cell cI cB ad n0Y 119 = .inl (cI, 260, .inl (fun _ => 0)) := by rw [pz_cellI (by decide)]; rfl
theorem md_e_120 (cI cB : ClassId) (ad : Nat → Nat) : pz_cell cI cB ad n0Y 120 = .inl (cI, 10, .inl (fun _ => 0)) := by rw [pz_cellI (by decide)]; rfl
theorem md_e_121 (cI cB : ClassId) (ad : Nat → Nat) : pz_cell cI cB ad n0Y 121 = .inl (cI, 24, .inl (fun _ => 0)) := by rw [pz_cellI (by decide)]; rfl
theorem md_e_122 (cI cB : ClassId) (ad : Nat → Nat) : pz_cell cI cB ad n0Y 122 = .inl (cI, 24, .inl (fun _ => 0)) := by rw [pz_cellI (by decide)]; rfl
theorem md_e_123 (cI cB : ClassId) (ad : Nat → Nat) : pz_cell cI cB ad n0Y 123 = .inl (cI, 24, .inl (fun _ => 0)) := by rw [pz_cellI (by decide)]; rfl
theorem md_e_124 (cI cB : ClassId) (ad : Nat → Nat) : pz_cell cI cB ad n0Y 124 = .inl (cI, 24, .inl (fun _ => 0)) := by rw [pz_cellI (by decide)]; rfl
theorem md_e_125 (cI cB : ClassId) (ad : Nat → Nat) : pz_cell cI cB ad n0Y 125 = .inl (cI, 9, .inl (fun _ => 0)) := by rw [pz_cellI (by decide)]; rfl
theorem md_e_126 (cI cB : ClassId) (ad : Nat → Nat) : pz_cell cI cB ad n0Y 126 = .inl (cI, 1024, .inl (fun _ => 0)) := by rw [pz_cellI (by decide)]; rfl
theorem md_e_127 (cI cB : ClassId) (ad : Nat → Nat) : pz_cell cI cB ad n0Y 127 = .inl (cI, 1024, .inl (fun _ => 0)) := by rw [pz_cellI (by decide)]; rfl
theorem md_e_128 (cI cB : ClassId) (ad : Nat → Nat) : pz_cell cI cB ad n0Y 128 = .inl (cI, 12, .inl (fun _ => 0)) := by rw [pz_cellI (by decide)]; rfl
theorem md_e_129 (cI cB : ClassId) (ad : Nat → Nat) : pz_cell cI cB ad n0Y 129 = .inl (cI, 72, .inl (fun _ => 0)) := by rw [pz_cellI (by decide)]; rfl
theorem md_e_130 (cI cB : ClassId) (ad : Nat → Nat) : pz_cell cI cB ad n0Y 130 = .inl (cI, 8, .inl (fun _ => 0)) := by rw [pz_cellI (by decide)]; rfl
theorem md_e_131 (cI cB : ClassId) (ad : Nat → Nat) : pz_cell cI cB ad n0Y 131 = .inl (cI, 8, .inl (fun _ => 0)) := by rw [pz_cellI (by decide)]; rfl
theorem md_e_132 (cI cB : ClassId) (ad : Nat → Nat) : pz_cell cI cB ad n0Y 132 = .inl (cI, 10240, .inl (fun _ => 0)) := by rw [pz_cellI (by decide)]; rfl
theorem md_fs (q : Nat → Nat) : cn_fs [] os_X12 df_X12 q = [.ref (q 0), .ref (q 1), .ref (q 2), .ref (q 3), .ref (q 4), .ref (q 5), .int 0, .ref (q 6), .int 0, .int 0, .int 0, .int 0, .int 0, .int 0, .int 0, .int 0, .int 0, .int 0, .ref (q 7), .ref (q 8), .ref (q 9), .ref (q 10), .ref (q 11), .ref (q 12), .ref (q 13), .ref (q 14), .ref (q 15), .ref (q 16), .ref (q 17), .ref (q 18), .ref (q 19), .ref (q 20), .ref (q 21), .ref (q 22), .ref (q 23), .ref (q 24), .int 0, .int 0, .int 0, .int 0, .ref (q 25), .ref (q 26), .ref (q 27), .ref (q 28), .int 0, .ref (q 29), .ref (q 30), .ref (q 31), .int 0, .int 0] := by
  simp only [cn_fs, os_X12, df_X12, List.set_cons_zero, List.set_cons_succ, Nat.zero_add, Nat.add_assoc, Nat.reduceAdd]
theorem md_R (cI cB : ClassId) (q : Nat → Nat) : cn_R cI cB os_X12 q = [(q 0, .inl (cI, 83, .inl (fun _ => 0))), (q 1, .inl (cI, 83, .inl (fun _ => 0))), (q 2, .inl (cI, 83, .inl (fun _ => 0))), (q 3, .inl (cI, 24, .inl (fun _ => 0))), (q 4, .inl (cI, 24, .inl (fun _ => 0))), (q 5, .inl (cI, 24, .inl (fun _ => 0))), (q 6, .inl (cB, 260, .inl (fun _ => 0))), (q 7, .inl (cI, 260, .inl (fun _ => 0))), (q 8, .inl (cI, 260, .inl (fun _ => 0))), (q 9, .inl (cI, 16, .inl (fun _ => 0))), (q 10, .inl (cI, 16, .inl (fun _ => 0))), (q 11, .inl (cI, 16, .inl (fun _ => 0))), (q 12, .inl (cI, 16, .inl (fun _ => 0))), (q 13, .inl (cI, 260, .inl (fun _ => 0))), (q 14, .inl (cI, 16, .inl (fun _ => 0))), (q 15, .inl (cI, 16, .inl (fun _ => 0))), (q 16, .inl (cI, 16, .inl (fun _ => 0))), (q 17, .inl (cI, 16, .inl (fun _ => 0))), (q 18, .inl (cI, 260, .inl (fun _ => 0))), (q 19, .inl (cI, 10, .inl (fun _ => 0))), (q 20, .inl (cI, 24, .inl (fun _ => 0))), (q 21, .inl (cI, 24, .inl (fun _ => 0))), (q 22, .inl (cI, 24, .inl (fun _ => 0))), (q 23, .inl (cI, 24, .inl (fun _ => 0))), (q 24, .inl (cI, 9, .inl (fun _ => 0))), (q 25, .inl (cI, 1024, .inl (fun _ => 0))), (q 26, .inl (cI, 1024, .inl (fun _ => 0))), (q 27, .inl (cI, 12, .inl (fun _ => 0))), (q 28, .inl (cI, 72, .inl (fun _ => 0))), (q 29, .inl (cI, 8, .inl (fun _ => 0))), (q 30, .inl (cI, 8, .inl (fun _ => 0))), (q 31, .inl (cI, 10240, .inl (fun _ => 0)))] := rfl
def md_ad (h0 : Nat) (q : Nat → Nat) : Nat → Nat := fun k => bif Nat.beq k 100 then h0 else q (k - 101)
set_option maxRecDepth 100000 in
theorem md_ws (cI cB : ClassId) (h0 : Nat) (q : Nat → Nat) : (((h0, (.inr (11, [.ref (q 0), .ref (q 1), .ref (q 2), .ref (q 3), .ref (q 4), .ref (q 5), .int 0, .ref (q 6), .int 0, .int 0, .int 0, .int 0, .int 0, .int 0, .int 0, .int 0, .int 0, .int 0, .ref (q 7), .ref (q 8), .ref (q 9), .ref (q 10), .ref (q 11), .ref (q 12), .ref (q 13), .ref (q 14), .ref (q 15), .ref (q 16), .ref (q 17), .ref (q 18), .ref (q 19), .ref (q 20), .ref (q 21), .ref (q 22), .ref (q 23), .ref (q 24), .int 0, .int 0, .int 0, .int 0, .ref (q 25), .ref (q 26), .ref (q 27), .ref (q 28), .int 0, .ref (q 29), .ref (q 30), .ref (q 31), .int 0, .int 0]) : va_E)) :: [(q 0, .inl (cI, 83, .inl (fun _ => 0))), (q 1, .inl (cI, 83, .inl (fun _ => 0))), (q 2, .inl (cI, 83, .inl (fun _ => 0))), (q 3, .inl (cI, 24, .inl (fun _ => 0))), (q 4, .inl (cI, 24, .inl (fun _ => 0))), (q 5, .inl (cI, 24, .inl (fun _ => 0))), (q 6, .inl (cB, 260, .inl (fun _ => 0))), (q 7, .inl (cI, 260, .inl (fun _ => 0))), (q 8, .inl (cI, 260, .inl (fun _ => 0))), (q 9, .inl (cI, 16, .inl (fun _ => 0))), (q 10, .inl (cI, 16, .inl (fun _ => 0))), (q 11, .inl (cI, 16, .inl (fun _ => 0))), (q 12, .inl (cI, 16, .inl (fun _ => 0))), (q 13, .inl (cI, 260, .inl (fun _ => 0))), (q 14, .inl (cI, 16, .inl (fun _ => 0))), (q 15, .inl (cI, 16, .inl (fun _ => 0))), (q 16, .inl (cI, 16, .inl (fun _ => 0))), (q 17, .inl (cI, 16, .inl (fun _ => 0))), (q 18, .inl (cI, 260, .inl (fun _ => 0))), (q 19, .inl (cI, 10, .inl (fun _ => 0))), (q 20, .inl (cI, 24, .inl (fun _ => 0))), (q 21, .inl (cI, 24, .inl (fun _ => 0))), (q 22, .inl (cI, 24, .inl (fun _ => 0))), (q 23, .inl (cI, 24, .inl (fun _ => 0))), (q 24, .inl (cI, 9, .inl (fun _ => 0))), (q 25, .inl (cI, 1024, .inl (fun _ => 0))), (q 26, .inl (cI, 1024, .inl (fun _ => 0))), (q 27, .inl (cI, 12, .inl (fun _ => 0))), (q 28, .inl (cI, 72, .inl (fun _ => 0))), (q 29, .inl (cI, 8, .inl (fun _ => 0))), (q 30, .inl (cI, 8, .inl (fun _ => 0))), (q 31, .inl (cI, 10240, .inl (fun _ => 0)))]).set 1 (q 0, .inl (cI, 83, .inl (upd (fun _ => 0) (82 : Int32).toNatClampNeg 1)))) = pz_ws false cI cB (md_ad h0 q) n0Y := by
  rw [pz_wsY, md_e_100, md_e_101, md_e_102, md_e_103, md_e_104, md_e_105, md_e_106, md_e_107, md_e_108, md_e_109, md_e_110, md_e_111, md_e_112, md_e_113, md_e_114, md_e_115, md_e_116, md_e_117, md_e_118, md_e_119, md_e_120, md_e_121, md_e_122, md_e_123, md_e_124, md_e_125, md_e_126, md_e_127, md_e_128, md_e_129, md_e_130, md_e_131, md_e_132]
  rfl
