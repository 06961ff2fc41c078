/-! ===== a law is read: signs ===== -/
theorem ch_at {k i : Nat} {c : Int} {M : pz_M} (hc : pz_cls k = 24) (hc2 : pz_cls (k + 5) = 25) (h1 : (i : Int) < (pz_sln.getD (k + 5 - 86) 0 : Nat)) (h2 : itc (ian (((pz_sby.getD (k + 5 - 86) []).getD i 0).toInt) 255) = c) (h3 : g_chr c = true) : m_String_charAt k i M = some (some (pzI c), M) := by
  rw [m_String_charAt_eq _ _ _ hc, m_String_isLatin1_eq _ _ hc, if_neg (show ¬ (1 : Int) = 0 by decide), if_pos rfl, bI_some, if_neg (show ¬ (1 : Int) = 0 by decide), m_StringLatin1_charAt_eq _ _ _ hc2, grd_pos ⟨by omega, h1⟩, grd_pos ⟨by omega, h1⟩, show ((i : Nat) : Int).toNat = i from rfl, h2, grd_pos h3, bI_some, grd_pos h3]
theorem s_len {k n : Nat} {M : pz_M} (hc : pz_cls k = 24) (h : pz_sln.getD (k + 5 - 86) 0 = n) (hn : n < 100) : m_String_length k M = some (some (pzI n), M) := by
  rw [m_String_length_eq _ _ hc, m_String_coder_eq _ _ hc, if_neg (show ¬ (1 : Int) = 0 by decide), grd_pos (by decide +kernel), bI_some, h]
  have := ihr_nat (a := n) (n := 0) (by omega) (by omega)
  rw [show ((0 : Nat) : Int) = 0 from rfl] at this
  rw [this, Nat.pow_zero, Nat.div_one]
/-- the place of a sign in a row of signs -/
def plc : List Int → Int → Int → Int
  | [], _, _ => -1
  | c :: r, x, i => if c = x then i else plc r x (i + 1)
theorem plc_L {k : Nat} {l : List Int} {M : pz_M} (hk : pz_cls k = 24) (hl : m_String_length k M = some (some (pzI l.length), M)) (hn : l.length < 100) (hch : ∀ i, i < l.length → m_String_charAt k i M = some (some (pzI (l.getD i 0)), M)) (x : Int) : ∀ (j i : Nat), i + j = l.length → m_Tape_placeIn_7 k x i M = some (some (pzI (plc (l.drop i) x i)), M) := by
  intro j
  induction j with
  | zero =>
    intro i hi
    rw [m_Tape_placeIn_7_eq _ _ _ _ hk, hl, bI_some, if_neg (show ¬ (i : Int) < (l.length : Int) by omega), List.drop_of_length_le (by omega)]
    rfl
  | succ j ih =>
    intro i hi
    have hd : l.drop i = l.getD i 0 :: l.drop (i + 1) := by
      rw [List.drop_eq_getElem_cons (show i < l.length by omega), List.getD_eq_getElem?_getD, List.getElem?_eq_getElem (show i < l.length by omega)]
      rfl
    rw [m_Tape_placeIn_7_eq _ _ _ _ hk, hl, bI_some, if_pos (show (i : Int) < (l.length : Int) by omega), hch i (by omega), bI_some, hd, ia_eq (by omega) (by omega)]
    show _ = some (some (pzI (if l.getD i 0 = x then (i : Int) else plc (l.drop (i + 1)) x ((i : Int) + 1))), M)
    by_cases e : l.getD i 0 = x
    · rw [if_pos e, if_pos e]
    · rw [if_neg e, if_neg e]
      exact ih (i + 1) (by omega)
theorem plc_ok {k : Nat} {l : List Int} {M : pz_M} {p e : Nat} {t : Nat → Int} (hX : txX M p e t) (hk : pz_cls k = 24) (hl : m_String_length k M = some (some (pzI l.length), M)) (hn : l.length < 100) (hch : ∀ i, i < l.length → m_String_charAt k i M = some (some (pzI (l.getD i 0)), M)) : m_Tape_placeIn k M = some (some (pzI (plc l (hr p e t) 0)), M) := by
  rw [m_Tape_placeIn_eq _ _ hk, Tape_peek hX, bI_some]
  exact plc_L hk hl hn hch _ l.length 0 (by omega)
section
variable {M : pz_M} {p e : Nat} {t : Nat → Int}
theorem in_81 (hX : txX M p e t) : m_Tape_placeIn 81 M = some (some (pzI (plc [101, 107, 104, 120] (hr p e t) 0)), M) := plc_ok hX rfl (s_len (n := 4) rfl (by decide +kernel) (by omega)) (by decide) (fun i hi => by
  rcases (show i = 0 ∨ i = 1 ∨ i = 2 ∨ i = 3 by have : i < 4 := hi; omega) with rfl | rfl | rfl | rfl <;> exact ch_at rfl rfl (by decide +kernel) (by decide +kernel) (by decide +kernel))
theorem in_82 (hX : txX M p e t) : m_Tape_placeIn 82 M = some (some (pzI (plc [112, 99, 115, 118, 117, 100, 113, 114, 116, 119] (hr p e t) 0)), M) := plc_ok hX rfl (s_len (n := 10) rfl (by decide +kernel) (by omega)) (by decide) (fun i hi => by
  rcases (show i = 0 ∨ i = 1 ∨ i = 2 ∨ i = 3 ∨ i = 4 ∨ i = 5 ∨ i = 6 ∨ i = 7 ∨ i = 8 ∨ i = 9 by have : i < 10 := hi; omega) with rfl | rfl | rfl | rfl | rfl | rfl | rfl | rfl | rfl | rfl <;> exact ch_at rfl rfl (by decide +kernel) (by decide +kernel) (by decide +kernel))
theorem in_83 (hX : txX M p e t) : m_Tape_placeIn 83 M = some (some (pzI (plc [60, 62, 61] (hr p e t) 0)), M) := plc_ok hX rfl (s_len (n := 3) rfl (by decide +kernel) (by omega)) (by decide) (fun i hi => by
  rcases (show i = 0 ∨ i = 1 ∨ i = 2 by have : i < 3 := hi; omega) with rfl | rfl | rfl <;> exact ch_at rfl rfl (by decide +kernel) (by decide +kernel) (by decide +kernel))
theorem in_84 (hX : txX M p e t) : m_Tape_placeIn 84 M = some (some (pzI (plc [42, 47, 37] (hr p e t) 0)), M) := plc_ok hX rfl (s_len (n := 3) rfl (by decide +kernel) (by omega)) (by decide) (fun i hi => by
  rcases (show i = 0 ∨ i = 1 ∨ i = 2 by have : i < 3 := hi; omega) with rfl | rfl | rfl <;> exact ch_at rfl rfl (by decide +kernel) (by decide +kernel) (by decide +kernel))
theorem in_85 (hX : txX M p e t) : m_Tape_placeIn 85 M = some (some (pzI (plc [43, 45] (hr p e t) 0)), M) := plc_ok hX rfl (s_len (n := 2) rfl (by decide +kernel) (by omega)) (by decide) (fun i hi => by
  rcases (show i = 0 ∨ i = 1 by have : i < 2 := hi; omega) with rfl | rfl <;> exact ch_at rfl rfl (by decide +kernel) (by decide +kernel) (by decide +kernel))
end
