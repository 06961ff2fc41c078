/-! a law's steps: both reckon alike -/
theorem lw_cls {k : Nat} (h : k = 13 ∨ k = 21) : pz_cls k = 2 ∧ pz_len (k + 6) = 10 := by rcases h with rfl | rfl <;> decide
theorem join_ok {k : Nat} (hk : pz_cls k = 2) {o : Nat} (h2 : 2 ≤ o) (h9 : o ≤ 9) (a b : Int) (M N : pz_M) (hb : b ≠ 0 ∨ (o ≠ 5 ∧ o ≠ 6)) : ∃ z : Int, m_Law_join k (opX o) a b M = some (some (pzI z), M) ∧ m_Mod_reckon (o : Int) a b N = some (some (pzI z), N) ∧ (7 ≤ o → z = 0 ∨ z = 1) := by
  rw [m_Law_join_eq _ _ _ _ _ hk, m_Mod_reckon_eq]
  have ho : o = 2 ∨ o = 3 ∨ o = 4 ∨ o = 5 ∨ o = 6 ∨ o = 7 ∨ o = 8 ∨ o = 9 := by omega
  rcases ho with rfl | rfl | rfl | rfl | rfl | rfl | rfl | rfl
  · exact ⟨ia a b, rfl, rfl, fun h => by omega⟩
  · exact ⟨isb a b, rfl, rfl, fun h => by omega⟩
  · exact ⟨imu a b, rfl, rfl, fun h => by omega⟩
  · have hb' : b ≠ 0 := hb.elim id (fun h => absurd rfl h.1)
    refine ⟨idv a b, ?_, ?_, fun h => by omega⟩
    · show (if b = 0 then _ else grd (b ≠ 0) (some (some (pzI (idv a b)), M))) = _
      rw [if_neg hb', grd_pos hb']
    · show grd (b ≠ 0) (some (some (pzI (idv a b)), N)) = _
      rw [grd_pos hb']
  · have hb' : b ≠ 0 := hb.elim id (fun h => absurd rfl h.2)
    refine ⟨irm a b, ?_, ?_, fun h => by omega⟩
    · show (if b = 0 then _ else grd (b ≠ 0) (some (some (pzI (irm a b)), M))) = _
      rw [if_neg hb', grd_pos hb']
    · show grd (b ≠ 0) (some (some (pzI (irm a b)), N)) = _
      rw [grd_pos hb']
  · by_cases c : a < b
    · refine ⟨1, ?_, ?_, fun _ => Or.inr rfl⟩
      · show (if a < b then _ else _) = _; rw [if_pos c]
      · show (if a < b then _ else _) = _; rw [if_pos c]
    · refine ⟨0, ?_, ?_, fun _ => Or.inl rfl⟩
      · show (if a < b then _ else _) = _; rw [if_neg c]
      · show (if a < b then _ else _) = _; rw [if_neg c]
  · by_cases c : b < a
    · refine ⟨1, ?_, ?_, fun _ => Or.inr rfl⟩
      · show (if b < a then _ else _) = _; rw [if_pos c]
      · show (if b < a then _ else _) = _; rw [if_pos c]
    · refine ⟨0, ?_, ?_, fun _ => Or.inl rfl⟩
      · show (if b < a then _ else _) = _; rw [if_neg c]
      · show (if b < a then _ else _) = _; rw [if_neg c]
  · by_cases c : a = b
    · refine ⟨1, ?_, ?_, fun _ => Or.inr rfl⟩
      · show (if a = b then _ else _) = _; rw [if_pos c]
      · show (if a = b then _ else _) = _; rw [if_pos c]
    · refine ⟨0, ?_, ?_, fun _ => Or.inl rfl⟩
      · show (if a = b then _ else _) = _; rw [if_neg c]
      · show (if a = b then _ else _) = _; rw [if_neg c]
theorem join_0 {k : Nat} (hk : pz_cls k = 2) {o : Nat} (ho : o = 5 ∨ o = 6) (a : Int) (M : pz_M) : m_Law_join k (opX o) a 0 M = some (some (pzI 0), pz_wr M k 9 1) := by
  rw [m_Law_join_eq _ _ _ _ _ hk]
  rcases ho with rfl | rfl
  · rfl
  · rfl
/-- test values are 0 or 1 -/
def stV (V : Nat → Int) : List Bool → Prop
  | [] => True
  | b :: s => (b = true → V s.length = 0 ∨ V s.length = 1) ∧ stV V s
theorem stV_congr {V W : Nat → Int} : ∀ s : List Bool, (∀ i, i < s.length → V i = W i) → stV V s → stV W s := by
  intro s
  induction s with
  | nil => intro _ _; trivial
  | cons b s ih =>
    intro h hs
    exact ⟨fun e => by rw [← h s.length (by show s.length < s.length + 1; omega)]; exact hs.1 e, ih (fun i hi => h i (by show i < s.length + 1; omega)) hs.2⟩
