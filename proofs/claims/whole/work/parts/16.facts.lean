/-! ===== facts of the cells that come in several copies ===== -/
theorem ci_10 : ∀ k, k < 133 → pz_cls k = 1 → k = 1 ∨ k = 7 := by decide +kernel
theorem ci_1 {k : Nat} (h : pz_cls k = 1) : k = 1 ∨ k = 7 := by
  by_cases hk : k < 133
  · exact ci_10 k hk h
  · rw [pz_cls_out hk] at h; cases h
theorem ar_1_0 {k : Nat} (h : pz_cls k = 1) : pz_ref k 0 = k + 1 := by rcases ci_1 h with rfl | rfl <;> rfl
theorem ac_1_0 {k : Nat} (h : pz_cls k = 1) : pz_cls (k + 1) = 20 := by rcases ci_1 h with rfl | rfl <;> rfl
theorem al_1_0 {k : Nat} (h : pz_cls k = 1) : pz_len (k + 1) = 24 := by rcases ci_1 h with rfl | rfl <;> rfl
theorem ar_1_1 {k : Nat} (h : pz_cls k = 1) : pz_ref k 1 = k + 2 := by rcases ci_1 h with rfl | rfl <;> rfl
theorem ac_1_1 {k : Nat} (h : pz_cls k = 1) : pz_cls (k + 2) = 20 := by rcases ci_1 h with rfl | rfl <;> rfl
theorem al_1_1 {k : Nat} (h : pz_cls k = 1) : pz_len (k + 2) = 24 := by rcases ci_1 h with rfl | rfl <;> rfl
theorem ar_1_2 {k : Nat} (h : pz_cls k = 1) : pz_ref k 2 = k + 3 := by rcases ci_1 h with rfl | rfl <;> rfl
theorem ac_1_2 {k : Nat} (h : pz_cls k = 1) : pz_cls (k + 3) = 20 := by rcases ci_1 h with rfl | rfl <;> rfl
theorem al_1_2 {k : Nat} (h : pz_cls k = 1) : pz_len (k + 3) = 24 := by rcases ci_1 h with rfl | rfl <;> rfl
theorem ar_1_3 {k : Nat} (h : pz_cls k = 1) : pz_ref k 3 = k + 4 := by rcases ci_1 h with rfl | rfl <;> rfl
theorem ac_1_3 {k : Nat} (h : pz_cls k = 1) : pz_cls (k + 4) = 20 := by rcases ci_1 h with rfl | rfl <;> rfl
theorem al_1_3 {k : Nat} (h : pz_cls k = 1) : pz_len (k + 4) = 24 := by rcases ci_1 h with rfl | rfl <;> rfl
theorem ar_1_4 {k : Nat} (h : pz_cls k = 1) : pz_ref k 4 = k + 5 := by rcases ci_1 h with rfl | rfl <;> rfl
theorem ac_1_4 {k : Nat} (h : pz_cls k = 1) : pz_cls (k + 5) = 20 := by rcases ci_1 h with rfl | rfl <;> rfl
theorem al_1_4 {k : Nat} (h : pz_cls k = 1) : pz_len (k + 5) = 9 := by rcases ci_1 h with rfl | rfl <;> rfl
theorem ci_20 : ∀ k, k < 133 → pz_cls k = 2 → k = 13 ∨ k = 21 := by decide +kernel
theorem ci_2 {k : Nat} (h : pz_cls k = 2) : k = 13 ∨ k = 21 := by
  by_cases hk : k < 133
  · exact ci_20 k hk h
  · rw [pz_cls_out hk] at h; cases h
theorem ar_2_0 {k : Nat} (h : pz_cls k = 2) : pz_ref k 0 = k + 1 := by rcases ci_2 h with rfl | rfl <;> rfl
theorem ac_2_0 {k : Nat} (h : pz_cls k = 2) : pz_cls (k + 1) = 20 := by rcases ci_2 h with rfl | rfl <;> rfl
theorem al_2_0 {k : Nat} (h : pz_cls k = 2) : pz_len (k + 1) = 16 := by rcases ci_2 h with rfl | rfl <;> rfl
theorem ar_2_1 {k : Nat} (h : pz_cls k = 2) : pz_ref k 1 = k + 2 := by rcases ci_2 h with rfl | rfl <;> rfl
theorem ac_2_1 {k : Nat} (h : pz_cls k = 2) : pz_cls (k + 2) = 20 := by rcases ci_2 h with rfl | rfl <;> rfl
theorem al_2_1 {k : Nat} (h : pz_cls k = 2) : pz_len (k + 2) = 16 := by rcases ci_2 h with rfl | rfl <;> rfl
theorem ar_2_2 {k : Nat} (h : pz_cls k = 2) : pz_ref k 2 = k + 3 := by rcases ci_2 h with rfl | rfl <;> rfl
theorem ac_2_2 {k : Nat} (h : pz_cls k = 2) : pz_cls (k + 3) = 20 := by rcases ci_2 h with rfl | rfl <;> rfl
theorem al_2_2 {k : Nat} (h : pz_cls k = 2) : pz_len (k + 3) = 16 := by rcases ci_2 h with rfl | rfl <;> rfl
theorem ar_2_4 {k : Nat} (h : pz_cls k = 2) : pz_ref k 4 = k + 4 := by rcases ci_2 h with rfl | rfl <;> rfl
theorem ac_2_4 {k : Nat} (h : pz_cls k = 2) : pz_cls (k + 4) = 20 := by rcases ci_2 h with rfl | rfl <;> rfl
theorem al_2_4 {k : Nat} (h : pz_cls k = 2) : pz_len (k + 4) = 256 := by rcases ci_2 h with rfl | rfl <;> rfl
theorem ar_2_5 {k : Nat} (h : pz_cls k = 2) : pz_ref k 5 = k + 5 := by rcases ci_2 h with rfl | rfl <;> rfl
theorem ac_2_5 {k : Nat} (h : pz_cls k = 2) : pz_cls (k + 5) = 20 := by rcases ci_2 h with rfl | rfl <;> rfl
theorem al_2_5 {k : Nat} (h : pz_cls k = 2) : pz_len (k + 5) = 256 := by rcases ci_2 h with rfl | rfl <;> rfl
theorem ar_2_7 {k : Nat} (h : pz_cls k = 2) : pz_ref k 7 = k + 6 := by rcases ci_2 h with rfl | rfl <;> rfl
theorem ac_2_7 {k : Nat} (h : pz_cls k = 2) : pz_cls (k + 6) = 20 := by rcases ci_2 h with rfl | rfl <;> rfl
theorem al_2_7 {k : Nat} (h : pz_cls k = 2) : pz_len (k + 6) = 10 := by rcases ci_2 h with rfl | rfl <;> rfl
theorem ar_2_8 {k : Nat} (h : pz_cls k = 2) : pz_ref k 8 = k + 7 := by rcases ci_2 h with rfl | rfl <;> rfl
theorem ac_2_8 {k : Nat} (h : pz_cls k = 2) : pz_cls (k + 7) = 20 := by rcases ci_2 h with rfl | rfl <;> rfl
theorem al_2_8 {k : Nat} (h : pz_cls k = 2) : pz_len (k + 7) = 32 := by rcases ci_2 h with rfl | rfl <;> rfl
theorem ci_90 : ∀ k, k < 133 → pz_cls k = 9 → k = 49 ∨ k = 54 ∨ k = 59 := by decide +kernel
theorem ci_9 {k : Nat} (h : pz_cls k = 9) : k = 49 ∨ k = 54 ∨ k = 59 := by
  by_cases hk : k < 133
  · exact ci_90 k hk h
  · rw [pz_cls_out hk] at h; cases h
theorem ar_9_0 {k : Nat} (h : pz_cls k = 9) : pz_ref k 0 = k + 1 := by rcases ci_9 h with rfl | rfl | rfl <;> rfl
theorem ac_9_0 {k : Nat} (h : pz_cls k = 9) : pz_cls (k + 1) = 20 := by rcases ci_9 h with rfl | rfl | rfl <;> rfl
theorem al_9_0 {k : Nat} (h : pz_cls k = 9) : pz_len (k + 1) = 24 := by rcases ci_9 h with rfl | rfl | rfl <;> rfl
theorem ar_9_1 {k : Nat} (h : pz_cls k = 9) : pz_ref k 1 = k + 2 := by rcases ci_9 h with rfl | rfl | rfl <;> rfl
theorem ac_9_1 {k : Nat} (h : pz_cls k = 9) : pz_cls (k + 2) = 20 := by rcases ci_9 h with rfl | rfl | rfl <;> rfl
theorem al_9_1 {k : Nat} (h : pz_cls k = 9) : pz_len (k + 2) = 24 := by rcases ci_9 h with rfl | rfl | rfl <;> rfl
theorem ar_9_2 {k : Nat} (h : pz_cls k = 9) : pz_ref k 2 = k + 3 := by rcases ci_9 h with rfl | rfl | rfl <;> rfl
theorem ac_9_2 {k : Nat} (h : pz_cls k = 9) : pz_cls (k + 3) = 20 := by rcases ci_9 h with rfl | rfl | rfl <;> rfl
theorem al_9_2 {k : Nat} (h : pz_cls k = 9) : pz_len (k + 3) = 9 := by rcases ci_9 h with rfl | rfl | rfl <;> rfl
theorem ar_9_3 {k : Nat} (h : pz_cls k = 9) : pz_ref k 3 = k + 4 := by rcases ci_9 h with rfl | rfl | rfl <;> rfl
theorem ac_9_3 {k : Nat} (h : pz_cls k = 9) : pz_cls (k + 4) = 20 := by rcases ci_9 h with rfl | rfl | rfl <;> rfl
theorem al_9_3 {k : Nat} (h : pz_cls k = 9) : pz_len (k + 4) = 11 := by rcases ci_9 h with rfl | rfl | rfl <;> rfl
theorem sb_cls {k : Nat} (h : pz_cls k = 24) : pz_cls (k + 5) = 25 := by
  obtain ⟨i, hi, rfl⟩ := pz_cls_str h
  have : ∀ i, i < 5 → pz_cls (81 + i + 5) = 25 := by decide +kernel
  exact this i hi
def pz_cok0 (row : pz_Row) (na : Nat) (st : List pz_V) : Bool := Nat.beq (rw_a row) na && (Nat.ble na st.length && (Nat.ble (st.length - na) 8 && (Nat.ble na (rw_n row) && Nat.ble (rw_n row) 100)))
theorem e_cok0 {row : pz_Row} {d na rc : Nat} {st : List pz_V} (h : pz_cok0 row na st = true) : pz_cok row d na rc st = (Nat.ble 3 (pz_cd (rw_l row) d) && (Nat.ble (pz_cd (rw_l row) d + 1) d && pz_rok rc na st)) := by
  unfold pz_cok0 at h
  simp only [Bool.and_eq_true] at h
  obtain ⟨a, b, c, e, f⟩ := h
  unfold pz_cok
  rw [a, b, c, e, f]
  rfl
theorem e_rok {rc na k : Nat} {st : List pz_V} (hg : st[na - 1]? = some (pzR k)) (h0 : Nat.beq rc 0 = false) : pz_rok rc na st = decide (pz_cls k = rc - 1) := by
  unfold pz_rok
  rw [hg, h0]
  by_cases h : pz_cls k = rc - 1
  · simp [h]
  · simp [h, e_beqF h]
theorem e_ble {a b : Nat} : Nat.ble a b = decide (a ≤ b) := by
  by_cases h : a ≤ b
  · simp [h]
  · cases hb : Nat.ble a b with
    | false => simp [h]
    | true => exact absurd (Nat.le_of_ble_eq_true hb) h
theorem e_cokS {row : pz_Row} {d na rc k : Nat} {st : List pz_V} (h : (pz_cok0 row na st && (Nat.ble 3 (pz_cd (rw_l row) d) && (Nat.ble (pz_cd (rw_l row) d + 1) d && !(Nat.beq rc 0)))) = true) (hg : st[na - 1]? = some (pzR k)) (hk : pz_cls k = rc - 1) : pz_cok row d na rc st = true := by
  simp only [Bool.and_eq_true, Bool.not_eq_true'] at h
  obtain ⟨a, b, c, e⟩ := h
  rw [e_cok0 a, b, c, e_rok hg e]
  simp [hk]
theorem e_cokU {row : pz_Row} {d na rc k : Nat} {st : List pz_V} (h : (pz_cok0 row na st && (Nat.ble 3 (pz_cd (rw_l row) d) && (Nat.ble (pz_cd (rw_l row) d + 1) d && !(Nat.beq rc 0)))) = true) (hg : st[na - 1]? = some (pzR k)) : pz_cok row d na rc st = decide (pz_cls k = rc - 1) := by
  simp only [Bool.and_eq_true, Bool.not_eq_true'] at h
  obtain ⟨a, b, c, e⟩ := h
  rw [e_cok0 a, b, c, e_rok hg e]
  rfl
theorem e_cokD {row : pz_Row} {d na rc : Nat} {st : List pz_V} (h : (pz_cok0 row na st && Nat.ble 3 (rw_l row)) = true) : pz_cok row d na rc st = (decide (rw_l row + 1 ≤ d) && pz_rok rc na st) := by
  simp only [Bool.and_eq_true] at h
  obtain ⟨a, b⟩ := h
  have hb := Nat.le_of_ble_eq_true b
  have e : pz_cd (rw_l row) d = rw_l row := by
    unfold pz_cd
    rw [e_beqF (by omega)]
    rfl
  rw [e_cok0 a, e, b, e_ble]
  rfl
theorem e_cokR {row : pz_Row} {d na rc : Nat} {st : List pz_V} (h : (pz_cok0 row na st && Nat.beq (rw_l row) 0) = true) : pz_cok row d na rc st = (decide (4 ≤ d) && pz_rok rc na st) := by
  simp only [Bool.and_eq_true] at h
  obtain ⟨a, b⟩ := h
  have e : pz_cd (rw_l row) d = d - 1 := by
    unfold pz_cd
    rw [b]
    rfl
  rw [e_cok0 a, e, e_ble, e_ble, ← Bool.and_assoc]
  congr 1
  by_cases hd : 4 ≤ d
  · rw [decide_eq_true hd, decide_eq_true (by omega), decide_eq_true (by omega)]; rfl
  · rw [decide_eq_false hd]
    by_cases h3 : 3 ≤ d - 1
    · omega
    · rw [decide_eq_false h3]; rfl
theorem e_cokD0 {row : pz_Row} {d na : Nat} {st : List pz_V} (h : (pz_cok0 row na st && Nat.ble 3 (rw_l row)) = true) : pz_cok row d na 0 st = decide (rw_l row + 1 ≤ d) := by rw [e_cokD h]; simp [pz_rok]
theorem e_cokR0 {row : pz_Row} {d na : Nat} {st : List pz_V} (h : (pz_cok0 row na st && Nat.beq (rw_l row) 0) = true) : pz_cok row d na 0 st = decide (4 ≤ d) := by rw [e_cokR h]; simp [pz_rok]
theorem e_cokDC {row : pz_Row} {d na rc k : Nat} {st : List pz_V} (h : (pz_cok0 row na st && Nat.ble 3 (rw_l row)) = true) (hg : st[na - 1]? = some (pzR k)) (hk : Nat.beq (pz_cls k + 1) rc = true) : pz_cok row d na rc st = decide (rw_l row + 1 ≤ d) := by
  have := Nat.eq_of_beq_eq_true hk
  rw [e_cokD h, e_rok hg (e_beqF (by omega)), decide_eq_true (show pz_cls k = rc - 1 by omega), Bool.and_true]
theorem e_cokRC {row : pz_Row} {d na rc k : Nat} {st : List pz_V} (h : (pz_cok0 row na st && Nat.beq (rw_l row) 0) = true) (hg : st[na - 1]? = some (pzR k)) (hk : Nat.beq (pz_cls k + 1) rc = true) : pz_cok row d na rc st = decide (4 ≤ d) := by
  have := Nat.eq_of_beq_eq_true hk
  rw [e_cokR h, e_rok hg (e_beqF (by omega)), decide_eq_true (show pz_cls k = rc - 1 by omega), Bool.and_true]
theorem e_cokDU {row : pz_Row} {d na rc k : Nat} {st : List pz_V} (h : (pz_cok0 row na st && (Nat.ble 3 (rw_l row) && !(Nat.beq rc 0))) = true) (hg : st[na - 1]? = some (pzR k)) : pz_cok row d na rc st = decide (rw_l row + 1 ≤ d ∧ pz_cls k = rc - 1) := by
  simp only [Bool.and_eq_true, Bool.not_eq_true'] at h
  obtain ⟨a, b, e⟩ := h
  rw [e_cokD (by rw [a, b]; rfl), e_rok hg e, Bool.decide_and]
theorem e_cokDS {row : pz_Row} {d na rc k : Nat} {st : List pz_V} (h : (pz_cok0 row na st && (Nat.ble 3 (rw_l row) && !(Nat.beq rc 0))) = true) (hg : st[na - 1]? = some (pzR k)) (hk : pz_cls k = rc - 1) : pz_cok row d na rc st = decide (rw_l row + 1 ≤ d) := by
  rw [e_cokDU h hg]
  simp [hk]
