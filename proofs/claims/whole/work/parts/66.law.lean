/-! ===== a law is read: rules, and the call ===== -/
section
variable {ks e : Nat} {t : Nat → Int}
theorem rr_39 {N : pz_M} {p kd : Nat} (y : txY N p e t) (hkd : kd < 4) (h : hr p e t = kdY kd) : m_Mod_readsRule N = m_Mod_readsRule_39 (kdY kd) N := by
  rw [m_Mod_readsRule_eq, Mod_here y, bI_some, h]
  rcases (show kd = 0 ∨ kd = 1 ∨ kd = 2 ∨ kd = 3 by omega) with rfl | rfl | rfl | rfl <;> rfl
theorem kdY_120 {kd : Nat} (hkd : kd < 4) : kdY kd = 120 ↔ kd = 3 := by
  rcases (show kd = 0 ∨ kd = 1 ∨ kd = 2 ∨ kd = 3 by omega) with rfl | rfl | rfl | rfl <;> decide
/-- a rule: both read it alike -/
theorem rule_ok (hk : ks = 13 ∨ ks = 21) (he : e ≤ 240) {M N : pz_M} {p r cx cy : Nat} {w3 w4 w5 : pz_V} (h : RS ks e t M N p r cx cy) (hr16 : r ≤ 16) : (∃ M' N', m_LawReader_readInto_6 ks r w3 w4 w5 M = some (some (pzI 0), M') ∧ m_Mod_readsRule N = some (some (pzI 0), N') ∧ M' 29 4 = N' 100 11 ∧ qX ks M M' ∧ qY N N') ∨ (r < 16 ∧ ∃ (M' N' : pz_M) (p' cx' cy' : Nat) (w1 w2 w3' : pz_V), m_LawReader_readInto_6 ks r w3 w4 w5 M = (bI (m_Tape_atEnd M') fun r13 M12 => if r13 = 0 then (bI (m_Tape_pass 59 M12) fun r15 M14 => if r15 = 0 then some (some (pzI 0), M14) else (m_LawReader_readInto_6 ks (ia r (1)) w1 w2 w3' M14)) else (some (some (pzI 1), M12))) ∧ m_Mod_readsRule N = some (some (pzI 1), N') ∧ RS ks e t M' N' p' (r + 1) cx' cy' ∧ qX ks M M' ∧ qY N N') := by
  have h' := h
  obtain ⟨s1, s2, s3, s4, s5, s6, s7, s8, s9, s10⟩ := h'
  have hcl := (lw_cls hk).1
  have hpe := s1.2.2.1
  rw [m_LawReader_readInto_6_eq _ _ _ _ _ _ hcl, if_neg (show ¬ (16 : Int) < (r : Int) by omega), in_81 s1, bI_some]
  rcases kd_cases (hr p e t) with ⟨kd, hkd, h0, q1, q2⟩ | ⟨q1, q2, q3, q4, q5⟩
  · have hpl := hr_lt h0
    rw [rr_39 s2 hkd q2, q1, if_neg (show ¬ (kd : Int) < 0 by omega), m_Mod_readsRule_39_eq, s6]
    by_cases c16 : r < 16
    · rw [if_pos (show (r : Int) < 16 by omega), Tape_step s1, bV_some, if_neg (show ¬ (r : Int) = 16 by omega), grd_pos (show 0 ≤ (r : Int) ∧ (r : Int) < 16 by omega), bM_eq, bM_eq, wr_cell (show (100 : Nat) ≠ 110 by decide), step_Y s2, wr_idx (show 16 ≠ 9 by decide), wr_cell (show (100 : Nat) ≠ 110 by decide), s6, grd_pos (show 0 ≤ (r : Int) ∧ (r : Int) < 16 by omega), bM_eq, bM_eq, bM_eq, wr_idx (show 14 ≠ 9 by decide), wr_cell (show (100 : Nat) ≠ 110 by decide), s7, show ((r : Nat) : Int).toNat = r from rfl]
      obtain ⟨N1, hN1⟩ : ∃ N1, N1 = pz_wr (pz_wr (pz_wr (pz_wr (pz_wr N 110 r (kdY kd)) 100 9 ((p : Int) + 1)) 111 r (cy : Int)) 100 13 0) 100 15 0 := ⟨_, rfl⟩
      rw [← hN1]
      have n1o : ∀ c i, ¬ (c = 100 ∧ (i = 9 ∨ i = 13 ∨ i = 15)) → ¬ ((c = 110 ∨ c = 111) ∧ i = r) → N1 c i = N c i := by
        intro c i z1 z2
        rw [hN1]
        unfold pz_wr
        rw [if_neg (by omega), if_neg (by omega), if_neg (by omega), if_neg (by omega), if_neg (by omega)]
      have n110 : N1 110 r = kdY kd := by rw [hN1, wr_cell (by decide), wr_cell (by decide), wr_cell (by decide), wr_cell (by decide), wr_same]
      have n111 : N1 111 r = cy := by rw [hN1, wr_cell (by decide), wr_cell (by decide), wr_same]
      have n13 : N1 100 13 = 0 := by rw [hN1, wr_idx (by decide), wr_same]
      have n15 : N1 100 15 = 0 := by rw [hN1, wr_same]
      have y1 : txY N1 (p + 1) e t := by rw [hN1]; exact ((((s2.wr (by decide) (Or.inl (by decide))).st hpl).wr (by decide) (Or.inl (by decide))).wr (by decide) (by decide)).wr (by decide) (by decide)
      have x1 := s1.st hpl
      obtain ⟨M1, hM1⟩ : ∃ M1, M1 = pz_wr M 29 2 ((p : Int) + 1) := ⟨_, rfl⟩
      rw [← hM1] at x1 ⊢
      have m1o : ∀ c i, ¬ (c = 29 ∧ i = 2) → M1 c i = M c i := by
        intro c i z
        rw [hM1]
        unfold pz_wr
        rw [if_neg z]
      have m16 : M1 ks 6 = (cx : Int) := by rw [m1o ks 6 (by omega)]; exact s5
      have n14 : N1 100 14 = (cy : Int) := by rw [n1o 100 14 (by omega) (by omega)]; exact s7
      have fx1 : pX ks cx M M1 := fun c i z _ _ => m1o c i (by omega)
      have q0 : PQ ks cx cy e t M1 N1 (p + 1) 0 0 [] [] := pq_start x1 y1 hcl m16 n14 n13 n15
      rw [m16]
      by_cases c3 : kd = 3
      · subst c3
        rw [if_pos (show ((3 : Nat) : Int) = 3 from rfl), if_pos (show kdY 3 = 120 from rfl)]
        rcases rule_C (w5 := w5) (u := pzI (kdY 3)) (kd := 3) (L2 := 0) hk he h c16 (by omega) x1 y1 m16 n14 n13 n15 (by omega) (by omega) (fun z => by omega) fx1 n110 n111 (fun c i z1 z2 z3 z4 => n1o c i (by omega) z4) with z | z
        · exact Or.inl z
        · exact Or.inr ⟨c16, z⟩
      · rw [if_neg (show ¬ (kd : Int) = 3 by omega), if_neg (fun z => c3 ((kdY_120 hkd).mp z))]
        rcases top_sum (d := 59) (g := 1) hk s8 he q0 (by show ¬ ((2 : Int) ≤ -1 ∧ (-1 : Int) ≤ 6); omega) (by show cx + 0 + 0 + 1 ≤ p + 1; omega) (by show 0 ≤ p + 1; omega) (by show 0 ≤ 2 * 0 + 1; omega) (by omega) (by omega) with ⟨M2, N2, a1, a2, a3, a4, a5, a6⟩ | ⟨M2, N2, p2, L2, a1, a2, a3, a4, a5, a6, a7⟩
        · left
          have a1' : m_LawReader_readSum 59 ks 0 M1 = some (some (pzI 0), M2) := a1
          rw [a1', bI_some, if_pos rfl, a2, bI_some, if_pos rfl]
          exact ⟨M2, N2, rfl, rfl, a3, fx1.q.tr a4.q, qY.tr (fun c i z1 z2 => n1o c i (by omega) (by omega)) a5.q⟩
        · have a1' : m_LawReader_readSum 59 ks 0 M1 = some (some (pzI 1), M2) := a1
          have a4' : cx + L2 + 0 + 1 ≤ p2 := a4
          rw [a1', bI_some, if_neg (show ¬ (1 : Int) = 0 by decide), a2, bI_some, if_neg (show ¬ (1 : Int) = 0 by decide)]
          have n214 : N2 100 14 = ((cy + L2 : Nat) : Int) := by obtain ⟨_, _, _, q, _⟩ := a3.2.2.2.2.2.2; exact q.2.1
          rcases rule_C (w5 := w5) (u := pzI (kdY kd)) (kd := kd) (L2 := L2) hk he h c16 hkd a3.1 a3.2.1 (pq_6 a3) n214 a3.2.2.2.1 a3.2.2.2.2.1 (by omega) (by omega) (fun _ => pq_sg8 a3) (fx1.tr a6) (by rw [a7 110 r (by omega) (by omega) (by omega)]; exact n110) (by rw [a7 111 r (by omega) (by omega) (by omega)]; exact n111) (fun c i z1 z2 z3 z4 => by rw [a7 c i z1 z2 z3]; exact n1o c i (by omega) z4) with z | z
          · exact Or.inl z
          · exact Or.inr ⟨c16, z⟩
    · left
      rw [if_neg (show ¬ (r : Int) < 16 by omega), fail_X s1, bI_some, grd_pos (by omega), if_pos (show (r : Int) = 16 by omega), fail_Y, bI_some, grd_pos (by omega), s2.1]
      exact ⟨_, _, rfl, rfl, by rw [wr_same, wr_same], ((fX.rf M).wr (Or.inr rfl)).q, ((fY.rf N).wr (Or.inr (Or.inl rfl))).q⟩
  · left
    rw [q1, if_pos (show (-1 : Int) < 0 by decide), fail_X s1, bI_some, grd_pos (by omega), m_Mod_readsRule_eq, Mod_here s2, bI_some, if_neg q2, if_neg q3, if_neg q4, if_neg q5, fail_Y, bI_some, grd_pos (by omega), s2.1]
    exact ⟨_, _, rfl, rfl, by rw [wr_same, wr_same], ((fX.rf M).wr (Or.inr rfl)).q, ((fY.rf N).wr (Or.inr (Or.inl rfl))).q⟩
theorem RS_f (hk : ks = 13 ∨ ks = 21) {M N M' N' : pz_M} {p p' r cx cy : Nat} (h : RS ks e t M N p r cx cy) (hp : p ≤ p') (x : txX M' p' e t) (y : txY N' p' e t) (fx : fX M M') (fy : fY N N') : RS ks e t M' N' p' r cx cy := by
  obtain ⟨s1, s2, s3, s4, s5, s6, s7, s8, s9, s10⟩ := h
  refine ⟨x, y, s3, by rw [fx ks 3 (by omega)]; exact s4, by rw [fx ks 6 (by omega)]; exact s5, by rw [fy 100 16 (by omega)]; exact s6, by rw [fy 100 14 (by omega)]; exact s7, s8, by omega, fun q hq => rul_keep (s10 q hq) (Nat.le_refl _) (Nat.le_refl _) (fx _ _ (by omega)) (fx _ _ (by omega)) (fx _ _ (by omega)) (fun i _ => fx _ _ (by omega)) (fun i _ => fx _ _ (by omega)) (fun c _ _ => fy _ _ (by omega)) (fun i _ => fy _ _ (by omega))⟩
theorem law_loop (hk : ks = 13 ∨ ks = 21) (he : e ≤ 240) {u1 u3 : pz_V} : ∀ (j r : Nat) (M N : pz_M) (p cx cy : Nat) (w3 w4 w5 : pz_V), r + j = 16 → RS ks e t M N p r cx cy →
    (∃ M' N', m_LawReader_readInto_6 ks r w3 w4 w5 M = some (some (pzI 0), M') ∧ (bI (m_Mod_readsRule N) fun a K => m_Mod_law_31 u1 a u3 K) = m_Mod_law_71 u1 0 u3 N' ∧ M' 29 4 = N' 100 11 ∧ qX ks M M' ∧ qY N N') ∨
    (∃ M' N' p' r' cx' cy', m_LawReader_readInto_6 ks r w3 w4 w5 M = some (some (pzI 1), M') ∧ (bI (m_Mod_readsRule N) fun a K => m_Mod_law_31 u1 a u3 K) = m_Mod_law_71 u1 1 u3 N' ∧ RS ks e t M' N' p' r' cx' cy' ∧ r' ≤ 16 ∧ qX ks M M' ∧ qY N N') := by
  intro j
  induction j with
  | zero =>
    intro r M N p cx cy w3 w4 w5 hj h
    rcases rule_ok (w3 := w3) (w4 := w4) (w5 := w5) hk he h (by omega) with ⟨M', N', g1, g2, g3, g4, g5⟩ | ⟨g0, _⟩
    · left
      rw [g1, g2, bI_some, m_Mod_law_31_eq, if_pos rfl]
      exact ⟨M', N', rfl, rfl, g3, g4, g5⟩
    · omega
  | succ j ih =>
    intro r M N p cx cy w3 w4 w5 hj h
    rcases rule_ok (w3 := w3) (w4 := w4) (w5 := w5) hk he h (by omega) with ⟨M', N', g1, g2, g3, g4, g5⟩ | ⟨g0, M', N', p', cx', cy', w1, w2, w3', g1, g2, g3, g4, g5⟩
    · left
      rw [g1, g2, bI_some, m_Mod_law_31_eq, if_pos rfl]
      exact ⟨M', N', rfl, rfl, g3, g4, g5⟩
    · have x := g3.1
      have y := g3.2.1
      have hp' := x.2.2.1
      rw [g1, g2, bI_some, m_Mod_law_31_eq, if_neg (show ¬ (1 : Int) = 0 by decide), m_Tape_atEnd_eq, x.1, x.2.1, y.1, y.2.1]
      by_cases c : (p' : Int) < e
      · rw [if_pos c, if_pos c, bI_some, if_pos rfl]
        rcases sgn_ok (x := 59) (by omega) x y with ⟨_, M2, N2, q1, q2, q3⟩ | ⟨_, M2, N2, q1, q2, q3, q4, q5, q6, q7⟩
        · left
          rw [q1, bI_some, if_pos rfl, q2, bI_some, if_pos rfl, m_Mod_law_31_eq, if_pos rfl]
          exact ⟨M2, N2, rfl, rfl, q3.1, g4.tr q3.2.1.q, g5.tr q3.2.2.q⟩
        · rw [q1, bI_some, if_neg (show ¬ (1 : Int) = 0 by decide), q2, bI_some, if_neg (show ¬ (1 : Int) = 0 by decide), ia_eq (by omega) (by omega)]
          have hI2 := RS_f hk g3 (Nat.le_succ p') q3 q4 q6 q7
          have same : (bI (m_Mod_readsRule N2) fun r4 M3 => if r4 = 0 then m_Mod_law_31 u1 0 u3 M3 else m_Mod_law_31 u1 1 u3 M3) = (bI (m_Mod_readsRule N2) fun a K => m_Mod_law_31 u1 a u3 K) := by
            rcases rule_ok (w3 := w1) (w4 := w2) (w5 := w3') hk he hI2 (by omega) with ⟨M3, N3, _, s2, _⟩ | ⟨_, M3, N3, _, _, _, _, _, _, _, s2, _⟩
            · rw [s2, bI_some, bI_some, if_pos rfl]
            · rw [s2, bI_some, bI_some, if_neg (show ¬ (1 : Int) = 0 by decide)]
          rw [same]
          rcases ih (r + 1) M2 N2 (p' + 1) cx' cy' w1 w2 w3' (by omega) hI2 with ⟨M3, N3, s1, s2, s3, s4, s5⟩ | ⟨M3, N3, p3, r3, cx3, cy3, s1, s2, s3, s3', s4, s5⟩
          · exact Or.inl ⟨M3, N3, s1, s2, s3, (g4.tr q6.q).tr s4, (g5.tr q7.q).tr s5⟩
          · exact Or.inr ⟨M3, N3, p3, r3, cx3, cy3, s1, s2, s3, s3', (g4.tr q6.q).tr s4, (g5.tr q7.q).tr s5⟩
      · right
        rw [if_neg c, if_neg c, bI_some, if_neg (show ¬ (1 : Int) = 0 by decide)]
        exact ⟨M', N', p', r + 1, cx', cy', rfl, rfl, g3, by omega, g4, g5⟩
end
