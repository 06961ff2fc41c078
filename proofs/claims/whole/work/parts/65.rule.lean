/-! ===== a law is read: a rule ===== -/
theorem sg8_keep {M N M' N' : pz_M} {k cs ms len : Nat} {fin : Bool} (h : sg8 M N k cs ms len fin) (h4 : ∀ i, i < cs + len → M' (k + 4) i = M (k + 4) i) (h5 : ∀ i, i < cs + len → M' (k + 5) i = M (k + 5) i) (h8 : ∀ i, i < ms + len → N' 108 i = N 108 i) : sg8 M' N' k cs ms len fin := by
  obtain ⟨ty, op, arg, a1, a2, a3⟩ := h
  refine ⟨ty, op, arg, a1, a2, fun j hj => ?_⟩
  rw [h4 _ (by omega), h5 _ (by omega), h8 _ (by omega)]
  exact a3 j hj
def sgm (M N : pz_M) (ks cs ms len : Nat) (fin : Bool) (cx : Nat) : Prop := sg8 M N ks cs ms len fin ∧ cs + len < cx ∧ M (ks + 4) (cs + len) = 0
def rul (M N : pz_M) (ks cx cy q : Nat) : Prop := ∃ kd cv ct mf mh mt : Nat, kd < 4 ∧ M (ks + 1) q = kd ∧ N 110 q = kdY kd ∧ M (ks + 2) q = cv ∧ M (ks + 3) q = ct ∧ N 111 q = mf ∧ N 112 q = mh ∧ N 113 q = mt ∧ mf ≤ mh ∧ mh ≤ mt ∧ mt ≤ cy ∧ (kd < 3 → sgm M N ks cv mf (mh - mf) false cx) ∧ sgm M N ks ct mh (mt - mh) true cx
theorem rul_keep {M N M' N' : pz_M} {ks cx cy cx' cy' q : Nat} (h : rul M N ks cx cy q) (hx : cx ≤ cx') (hy : cy ≤ cy') (h1 : M' (ks + 1) q = M (ks + 1) q) (h2 : M' (ks + 2) q = M (ks + 2) q) (h3 : M' (ks + 3) q = M (ks + 3) q) (h4 : ∀ i, i < cx → M' (ks + 4) i = M (ks + 4) i) (h5 : ∀ i, i < cx → M' (ks + 5) i = M (ks + 5) i) (hN : ∀ c, 110 ≤ c → c ≤ 113 → N' c q = N c q) (h8 : ∀ i, i < cy → N' 108 i = N 108 i) : rul M' N' ks cx' cy' q := by
  obtain ⟨kd, cv, ct, mf, mh, mt, a1, a2, a3, a4, a5, a6, a7, a8, b1, b2, b3, b4, b5⟩ := h
  refine ⟨kd, cv, ct, mf, mh, mt, a1, by rw [h1]; exact a2, by rw [hN 110 (by omega) (by omega)]; exact a3, by rw [h2]; exact a4, by rw [h3]; exact a5, by rw [hN 111 (by omega) (by omega)]; exact a6, by rw [hN 112 (by omega) (by omega)]; exact a7, by rw [hN 113 (by omega) (by omega)]; exact a8, b1, b2, by omega, fun z => ?_, ?_⟩
  · obtain ⟨c1, c2, c3⟩ := b4 z
    exact ⟨sg8_keep c1 (fun i hi => h4 i (by omega)) (fun i hi => h5 i (by omega)) (fun i hi => h8 i (by omega)), by omega, by rw [h4 _ c2]; exact c3⟩
  · obtain ⟨c1, c2, c3⟩ := b5
    exact ⟨sg8_keep c1 (fun i hi => h4 i (by omega)) (fun i hi => h5 i (by omega)) (fun i hi => h8 i (by omega)), by omega, by rw [h4 _ c2]; exact c3⟩
def RS (ks e : Nat) (t : Nat → Int) (M N : pz_M) (p r cx cy : Nat) : Prop := txX M p e t ∧ txY N p e t ∧ pz_cls ks = 2 ∧ M ks 3 = r ∧ M ks 6 = cx ∧ N 100 16 = r ∧ N 100 14 = cy ∧ cy ≤ cx ∧ cx ≤ p ∧ ∀ q, q < r → rul M N ks cx cy q
def qX (ks : Nat) (M M' : pz_M) : Prop := ∀ c i, ¬ (c = 29 ∧ (i = 2 ∨ i = 4)) → ¬ (c = ks ∧ (i = 3 ∨ i = 6)) → ¬ (ks + 1 ≤ c ∧ c ≤ ks + 5) → M' c i = M c i
def qY (N N' : pz_M) : Prop := ∀ c i, ¬ (c = 100 ∧ (i = 9 ∨ i = 11 ∨ i = 12 ∨ i = 13 ∨ i = 14 ∨ i = 15 ∨ i = 16)) → ¬ (108 ≤ c ∧ c ≤ 113) → N' c i = N c i
theorem qX.tr {ks : Nat} {M M1 M2 : pz_M} (h : qX ks M M1) (h2 : qX ks M1 M2) : qX ks M M2 := fun c i a b d => (h2 c i a b d).trans (h c i a b d)
theorem qY.tr {N N1 N2 : pz_M} (h : qY N N1) (h2 : qY N1 N2) : qY N N2 := fun c i a b => (h2 c i a b).trans (h c i a b)
theorem qX.rf {ks : Nat} (M : pz_M) : qX ks M M := fun _ _ _ _ _ => rfl
theorem qY.rf (N : pz_M) : qY N N := fun _ _ _ _ => rfl
theorem pX.q {ks cs : Nat} {M M' : pz_M} (h : pX ks cs M M') : qX ks M M' := fun c i a b d => h c i a (by omega) (by omega)
theorem pY.q {ms : Nat} {N N' : pz_M} (h : pY ms N N') : qY N N' := fun c i a b => h c i (by omega) (by omega) (by omega)
theorem fX.q {ks : Nat} {M M' : pz_M} (h : fX M M') : qX ks M M' := fun c i a _ _ => h c i (by omega)
theorem fY.q {N N' : pz_M} (h : fY N N') : qY N N' := fun c i a _ => h c i (by omega)
theorem qx_5 {ks n : Nat} {M M' : pz_M} (h : ∀ c i, ¬ (c = ks ∧ i = 6) → ¬ ((c = ks + 4 ∨ c = ks + 5) ∧ i = n) → M' c i = M c i) : qX ks M M' := fun c i _ b d => h c i (by omega) (by omega)
theorem qx_6 {ks r : Nat} {M M' : pz_M} (h : ∀ c i, ¬ (c = ks ∧ i = 3) → ¬ (ks + 1 ≤ c ∧ c ≤ ks + 3 ∧ i = r) → M' c i = M c i) : qX ks M M' := fun c i _ b d => h c i (by omega) (by omega)
theorem qy_6 {r : Nat} {N N' : pz_M} (h : ∀ c i, ¬ (c = 113 ∧ i = r) → ¬ (c = 100 ∧ i = 16) → N' c i = N c i) : qY N N' := fun c i a b => h c i (by omega) (by omega)
theorem qy_3 {r cy : Nat} {N N2 N3 : pz_M} (fy : ∀ c i, ¬ (c = 100 ∧ (i = 9 ∨ i = 11 ∨ i = 12 ∨ i = 13 ∨ i = 14 ∨ i = 15)) → ¬ (c = 108 ∧ cy ≤ i) → c ≠ 109 → ¬ ((c = 110 ∨ c = 111) ∧ i = r) → N2 c i = N c i) (h : ∀ c i, ¬ (c = 112 ∧ i = r) → N3 c i = N2 c i) : qY N N3 := fun c i a b => by rw [h c i (by omega)]; exact fy c i (by omega) (by omega) (by omega) (by omega)
theorem kd_cases (h : Int) : (∃ kd : Nat, kd < 4 ∧ 0 ≤ h ∧ plc [101, 107, 104, 120] h 0 = (kd : Int) ∧ h = kdY kd) ∨ (plc [101, 107, 104, 120] h 0 = -1 ∧ h ≠ 101 ∧ h ≠ 107 ∧ h ≠ 104 ∧ h ≠ 120) := by
  by_cases c0 : h = 101
  · subst c0; exact Or.inl ⟨0, by omega, by omega, rfl, rfl⟩
  by_cases c1 : h = 107
  · subst c1; exact Or.inl ⟨1, by omega, by omega, rfl, rfl⟩
  by_cases c2 : h = 104
  · subst c2; exact Or.inl ⟨2, by omega, by omega, rfl, rfl⟩
  by_cases c3 : h = 120
  · subst c3; exact Or.inl ⟨3, by omega, by omega, rfl, rfl⟩
  refine Or.inr ⟨?_, c0, c1, c2, c3⟩
  show (if 101 = h then _ else if 107 = h then _ else if 104 = h then _ else if 120 = h then _ else (-1 : Int)) = -1
  rw [if_neg (by omega), if_neg (by omega), if_neg (by omega), if_neg (by omega)]
section
variable {ks e : Nat} {t : Nat → Int}
theorem pq_start {cs ms : Nat} {M N : pz_M} {p : Nat} (x : txX M p e t) (y : txY N p e t) (h31 : pz_cls ks = 2) (h6 : M ks 6 = cs) (h14 : N 100 14 = ms) (h13 : N 100 13 = 0) (h15 : N 100 15 = 0) : PQ ks cs ms e t M N p 0 0 [] [] := ⟨x, y, h31, h13, h15, trivial, fun _ => [], fun _ => 0, fun _ => 0, ⟨h6, h14, fun k j q => (List.not_mem_nil q).elim, fun j hj => absurd hj (Nat.not_lt_zero j)⟩, rfl, rfl⟩
theorem pq_sg8 {cs ms : Nat} {M N : pz_M} {p o L : Nat} {fin : Bool} (h : PQ ks cs ms e t M N p o L [] [fin]) : sg8 M N ks cs ms L fin := by
  obtain ⟨h1, h2, h3, h4, h5, h6, ty, op, arg, h7, h8, h9⟩ := h
  exact CR_seg h7 h9 h8
set_option maxHeartbeats 6000000 in
/-- the second half of a rule: its condition -/
theorem rule_C (hk : ks = 13 ∨ ks = 21) (he : e ≤ 240) {M N M2 N2 : pz_M} {p r cx cy kd p2 L2 : Nat} {w5 u : pz_V} (h : RS ks e t M N p r cx cy) (hr : r < 16) (hkd : kd < 4) (x2 : txX M2 p2 e t) (y2 : txY N2 p2 e t) (h6 : M2 ks 6 = ((cx + L2 : Nat) : Int)) (h14 : N2 100 14 = ((cy + L2 : Nat) : Int)) (h13 : N2 100 13 = 0) (h15 : N2 100 15 = 0) (hcap : cx + L2 + 1 ≤ p2) (hpp : p < p2) (hE : kd < 3 → sg8 M2 N2 ks cx cy L2 false) (fx : pX ks cx M M2) (f110 : N2 110 r = kdY kd) (f111 : N2 111 r = cy) (fy : ∀ c i, ¬ (c = 100 ∧ (i = 9 ∨ i = 11 ∨ i = 12 ∨ i = 13 ∨ i = 14 ∨ i = 15)) → ¬ (c = 108 ∧ cy ≤ i) → c ≠ 109 → ¬ ((c = 110 ∨ c = 111) ∧ i = r) → N2 c i = N c i) : (∃ M' N', m_LawReader_readInto_67 ks r kd cx w5 M2 = some (some (pzI 0), M') ∧ m_Mod_readsRule_116 u N2 = some (some (pzI 0), N') ∧ M' 29 4 = N' 100 11 ∧ qX ks M M' ∧ qY N N') ∨ ∃ (M' N' : pz_M) (p' cx' cy' : Nat) (w1 w2 w3 : pz_V), m_LawReader_readInto_67 ks r kd cx w5 M2 = (bI (m_Tape_atEnd M') fun r13 M12 => if r13 = 0 then (bI (m_Tape_pass 59 M12) fun r15 M14 => if r15 = 0 then some (some (pzI 0), M14) else (m_LawReader_readInto_6 ks (ia r (1)) w1 w2 w3 M14)) else (some (some (pzI 1), M12))) ∧ m_Mod_readsRule_116 u N2 = some (some (pzI 1), N') ∧ RS ks e t M' N' p' (r + 1) cx' cy' ∧ qX ks M M' ∧ qY N N' := by
  obtain ⟨s1, s2, s3, s4, s5, s6, s7, s8, s9, s10⟩ := h
  have hcl := (lw_cls hk).1
  have hp2 := x2.2.2.1
  have e16 : N2 100 16 = (r : Int) := by rw [fy 100 16 (by omega) (by omega) (by omega) (by omega)]; exact s6
  have hadd := add_ok hk h6 (by omega) 0 0
  obtain ⟨M3, hM3⟩ : ∃ M3, M3 = pz_wr (pz_wr (pz_wr M2 (ks + 4) (cx + L2) 0) (ks + 5) (cx + L2) 0) ks 6 (((cx + L2 : Nat) : Int) + 1) := ⟨_, rfl⟩
  rw [← hM3] at hadd
  have m3o : ∀ c i, ¬ (c = ks ∧ i = 6) → ¬ ((c = ks + 4 ∨ c = ks + 5) ∧ i = cx + L2) → M3 c i = M2 c i := by
    intro c i z1 z2
    rw [hM3]
    unfold pz_wr
    rw [if_neg z1, if_neg (by omega), if_neg (by omega)]
  have m36 : M3 ks 6 = ((cx + L2 + 1 : Nat) : Int) := by rw [hM3, wr_same]; omega
  have m34 : M3 (ks + 4) (cx + L2) = 0 := by rw [hM3, wr_cell (by omega), wr_cell (by omega), wr_same]
  have x3 : txX M3 p2 e t := by rw [hM3]; exact ((x2.wr (by omega) (by omega)).wr (by omega) (by omega)).wr (by omega) (by omega)
  obtain ⟨N3, hN3⟩ : ∃ N3, N3 = pz_wr N2 112 r ((cy + L2 : Nat) : Int) := ⟨_, rfl⟩
  have n3o : ∀ c i, ¬ (c = 112 ∧ i = r) → N3 c i = N2 c i := by
    intro c i z
    rw [hN3]
    unfold pz_wr
    rw [if_neg z]
  have n3r : N3 112 r = ((cy + L2 : Nat) : Int) := by rw [hN3, wr_same]
  have y3 : txY N3 p2 e t := by rw [hN3]; exact y2.wr (by decide) (Or.inl (by decide))
  have q3 : PQ ks (cx + L2 + 1) (cy + L2) e t M3 N3 p2 0 0 [] [] := pq_start x3 y3 hcl m36 (by rw [n3o 100 14 (by omega)]; exact h14) (by rw [n3o 100 13 (by omega)]; exact h13) (by rw [n3o 100 15 (by omega)]; exact h15)
  have eY : m_Mod_readsRule_116 u N2 = bI (m_Mod_readsCondition N3) fun r3 M2 => if r3 = 0 then some (some (pzI 0), M2) else (grd (0 ≤ (M2 100 16) ∧ (M2 100 16) < 16) (bM (pz_wr M2 113 (((M2 100 16)).toNat) (M2 100 14)) fun M4 => bM (pz_wr M4 100 16 (ia (M4 100 16) 1)) fun M5 => some (some (pzI 1), M5))) := by
    rw [m_Mod_readsRule_116_eq, e16, grd_pos (by omega), bM_eq, h14, show ((r : Nat) : Int).toNat = r from rfl, ← hN3]
  have fx2 : qX ks M M3 := fx.q.tr (qx_5 m3o)
  have fy2 : qY N N3 := qy_3 fy n3o
  rw [m_LawReader_readInto_67_eq _ _ _ _ _ _ hcl, hadd, bI_some, m36, eY]
  rcases top_cond (K := fun M7 => (bI (m_Law_addStep ks 0 0 M7) fun r10 M9 => (bV (m_Law_addRule ks kd cx ((cx + L2 + 1 : Nat) : Int) M9) fun M11 => bI (m_Tape_atEnd M11) fun r13 M12 => if r13 = 0 then (bI (m_Tape_pass 59 M12) fun r15 M14 => if r15 = 0 then some (some (pzI 0), M14) else (m_LawReader_readInto_6 ks (ia r (1)) (pzI kd) (pzI cx) (pzI ((cx + L2 + 1 : Nat) : Int)) M14)) else (some (some (pzI 1), M12))))) hk (by omega) he q3 (fun k j z q => by cases q) hcap with ⟨M4, N4, a1, a2, a3, a4, a5⟩ | ⟨M4, N4, p4, L4, a1, a2, a3, a4, a5, a6, a7⟩
  · left
    rw [a2, bI_some, if_pos rfl]
    exact ⟨M4, N4, a1, rfl, a3, fx2.tr a4.q, fy2.tr a5.q⟩
  · right
    have x4 := a3.1
    have y4 := a3.2.1
    have hp4 := x4.2.2.1
    have m46 := pq_6 a3
    have n414 : N4 100 14 = ((cy + L2 + L4 : Nat) : Int) := by obtain ⟨_, _, _, q, _⟩ := a3.2.2.2.2.2.2; exact q.2.1
    have sgC : sg8 M4 N4 ks (cx + L2 + 1) (cy + L2) L4 true := pq_sg8 a3
    have hadd2 := add_ok hk m46 (by omega) 0 0
    obtain ⟨M5, hM5⟩ : ∃ M5, M5 = pz_wr (pz_wr (pz_wr M4 (ks + 4) (cx + L2 + 1 + L4) 0) (ks + 5) (cx + L2 + 1 + L4) 0) ks 6 (((cx + L2 + 1 + L4 : Nat) : Int) + 1) := ⟨_, rfl⟩
    rw [← hM5] at hadd2
    have m5o : ∀ c i, ¬ (c = ks ∧ i = 6) → ¬ ((c = ks + 4 ∨ c = ks + 5) ∧ i = cx + L2 + 1 + L4) → M5 c i = M4 c i := by
      intro c i z1 z2
      rw [hM5]
      unfold pz_wr
      rw [if_neg z1, if_neg (by omega), if_neg (by omega)]
    have m56 : M5 ks 6 = ((cx + L2 + 1 + L4 + 1 : Nat) : Int) := by rw [hM5, wr_same]; omega
    have m54 : M5 (ks + 4) (cx + L2 + 1 + L4) = 0 := by rw [hM5, wr_cell (by omega), wr_cell (by omega), wr_same]
    have x5 : txX M5 p4 e t := by rw [hM5]; exact ((x4.wr (by omega) (by omega)).wr (by omega) (by omega)).wr (by omega) (by omega)
    have m53 : M5 ks 3 = (r : Int) := by
      rw [m5o ks 3 (by omega) (by omega), a6 ks 3 (by omega) (by omega) (by omega), m3o ks 3 (by omega) (by omega), fx ks 3 (by omega) (by omega) (by omega)]; exact s4
    obtain ⟨M6, hM6⟩ : ∃ M6, M6 = pz_wr (pz_wr (pz_wr (pz_wr M5 (ks + 1) r (kd : Int)) (ks + 2) r (cx : Int)) (ks + 3) r ((cx + L2 + 1 : Nat) : Int)) ks 3 ((r : Int) + 1) := ⟨_, rfl⟩
    have hrule : m_Law_addRule ks kd cx ((cx + L2 + 1 : Nat) : Int) M5 = some (none, M6) := by
      rw [m_Law_addRule_eq _ _ _ _ _ hcl, m53, if_pos (show (r : Int) < 16 by omega), grd_pos (by omega), bM_eq, wr_cell (show ks ≠ ks + 1 by omega), m53, grd_pos (by omega), bM_eq, wr_cell (show ks ≠ ks + 2 by omega), wr_cell (show ks ≠ ks + 1 by omega), m53, grd_pos (by omega), bM_eq, bM_eq, wr_cell (show ks ≠ ks + 3 by omega), wr_cell (show ks ≠ ks + 2 by omega), wr_cell (show ks ≠ ks + 1 by omega), m53, ia_eq (by omega) (by omega), show ((r : Nat) : Int).toNat = r from rfl, ← hM6]
    have m6o : ∀ c i, ¬ (c = ks ∧ i = 3) → ¬ (ks + 1 ≤ c ∧ c ≤ ks + 3 ∧ i = r) → M6 c i = M5 c i := by
      intro c i z1 z2
      rw [hM6]
      unfold pz_wr
      rw [if_neg z1, if_neg (by omega), if_neg (by omega), if_neg (by omega)]
    have m61 : M6 (ks + 1) r = (kd : Int) := by rw [hM6, wr_cell (by omega), wr_cell (by omega), wr_cell (by omega), wr_same]
    have m62 : M6 (ks + 2) r = (cx : Int) := by rw [hM6, wr_cell (by omega), wr_cell (by omega), wr_same]
    have m63 : M6 (ks + 3) r = ((cx + L2 + 1 : Nat) : Int) := by rw [hM6, wr_cell (by omega), wr_same]
    have m6r : M6 ks 3 = ((r + 1 : Nat) : Int) := by rw [hM6, wr_same]; rfl
    have x6 : txX M6 p4 e t := by rw [hM6]; exact (((x5.wr (by omega) (by omega)).wr (by omega) (by omega)).wr (by omega) (by omega)).wr (by omega) (by omega)
    have e416 : N4 100 16 = (r : Int) := by rw [a7 100 16 (by omega) (by omega) (by omega), n3o 100 16 (by omega)]; exact e16
    obtain ⟨N6, hN6⟩ : ∃ N6, N6 = pz_wr (pz_wr N4 113 r ((cy + L2 + L4 : Nat) : Int)) 100 16 ((r : Int) + 1) := ⟨_, rfl⟩
    have n6o : ∀ c i, ¬ (c = 113 ∧ i = r) → ¬ (c = 100 ∧ i = 16) → N6 c i = N4 c i := by
      intro c i z1 z2
      rw [hN6]
      unfold pz_wr
      rw [if_neg z2, if_neg z1]
    have n613 : N6 113 r = ((cy + L2 + L4 : Nat) : Int) := by rw [hN6, wr_cell (by decide), wr_same]
    have n616 : N6 100 16 = ((r + 1 : Nat) : Int) := by rw [hN6, wr_same]; rfl
    have y6 : txY N6 p4 e t := by rw [hN6]; exact (y4.wr (by decide) (Or.inl (by decide))).wr (by decide) (by decide)
    refine ⟨M6, N6, p4, cx + L2 + 1 + L4 + 1, cy + L2 + L4, pzI kd, pzI cx, pzI ((cx + L2 + 1 : Nat) : Int), ?_, ?_, ⟨x6, y6, hcl, m6r, by rw [m6o ks 6 (by omega) (by omega)]; exact m56, n616, by rw [n6o 100 14 (by omega) (by omega)]; exact n414, by omega, by omega, fun q hq => ?_⟩, ?_, ?_⟩
    · rw [a1, hadd2, bI_some, hrule, bV_some]
    · rw [a2, bI_some, if_neg (show ¬ (1 : Int) = 0 by decide), e416, grd_pos (by omega), bM_eq, wr_cell (show (100 : Nat) ≠ 113 by decide), e416, bM_eq, n414, ia_eq (by omega) (by omega), show ((r : Nat) : Int).toNat = r from rfl, ← hN6]
    · by_cases eq : q = r
      · subst eq
        refine ⟨kd, cx, cx + L2 + 1, cy, cy + L2, cy + L2 + L4, hkd, m61, ?_, m62, m63, ?_, ?_, n613, by omega, by omega, by omega, fun z => ⟨?_, ?_, ?_⟩, ⟨?_, ?_, ?_⟩⟩
        · rw [n6o 110 q (by omega) (by omega), a7 110 q (by omega) (by omega) (by omega), n3o 110 q (by omega)]; exact f110
        · rw [n6o 111 q (by omega) (by omega), a7 111 q (by omega) (by omega) (by omega), n3o 111 q (by omega)]; exact f111
        · rw [n6o 112 q (by omega) (by omega), a7 112 q (by omega) (by omega) (by omega)]; exact n3r
        · rw [show cy + L2 - cy = L2 by omega]
          refine sg8_keep (hE z) (fun i hi => ?_) (fun i hi => ?_) (fun i hi => ?_)
          · rw [m6o _ i (by omega) (by omega), m5o _ i (by omega) (by omega), a6 _ i (by omega) (by omega) (by omega), m3o _ i (by omega) (by omega)]
          · rw [m6o _ i (by omega) (by omega), m5o _ i (by omega) (by omega), a6 _ i (by omega) (by omega) (by omega), m3o _ i (by omega) (by omega)]
          · rw [n6o 108 i (by omega) (by omega), a7 108 i (by omega) (by omega) (by omega), n3o 108 i (by omega)]
        · omega
        · rw [show cy + L2 - cy = L2 by omega, m6o _ _ (by omega) (by omega), m5o _ _ (by omega) (by omega), a6 _ _ (by omega) (by omega) (by omega)]; exact m34
        · rw [show cy + L2 + L4 - (cy + L2) = L4 by omega]
          refine sg8_keep sgC (fun i hi => ?_) (fun i hi => ?_) (fun i hi => ?_)
          · rw [m6o _ i (by omega) (by omega), m5o _ i (by omega) (by omega)]
          · rw [m6o _ i (by omega) (by omega), m5o _ i (by omega) (by omega)]
          · rw [n6o 108 i (by omega) (by omega)]
        · omega
        · rw [show cy + L2 + L4 - (cy + L2) = L4 by omega, m6o _ _ (by omega) (by omega)]; exact m54
      · refine rul_keep (s10 q (by omega)) (by omega) (by omega) ?_ ?_ ?_ (fun i hi => ?_) (fun i hi => ?_) (fun c c1 c2 => ?_) (fun i hi => ?_)
        · rw [m6o _ q (by omega) (by omega), m5o _ q (by omega) (by omega), a6 _ q (by omega) (by omega) (by omega), m3o _ q (by omega) (by omega), fx _ q (by omega) (by omega) (by omega)]
        · rw [m6o _ q (by omega) (by omega), m5o _ q (by omega) (by omega), a6 _ q (by omega) (by omega) (by omega), m3o _ q (by omega) (by omega), fx _ q (by omega) (by omega) (by omega)]
        · rw [m6o _ q (by omega) (by omega), m5o _ q (by omega) (by omega), a6 _ q (by omega) (by omega) (by omega), m3o _ q (by omega) (by omega), fx _ q (by omega) (by omega) (by omega)]
        · rw [m6o _ i (by omega) (by omega), m5o _ i (by omega) (by omega), a6 _ i (by omega) (by omega) (by omega), m3o _ i (by omega) (by omega), fx _ i (by omega) (by omega) (by omega)]
        · rw [m6o _ i (by omega) (by omega), m5o _ i (by omega) (by omega), a6 _ i (by omega) (by omega) (by omega), m3o _ i (by omega) (by omega), fx _ i (by omega) (by omega) (by omega)]
        · rw [n6o c q (by omega) (by omega), a7 c q (by omega) (by omega) (by omega), n3o c q (by omega), fy c q (by omega) (by omega) (by omega) (by omega)]
        · rw [n6o 108 i (by omega) (by omega), a7 108 i (by omega) (by omega) (by omega), n3o 108 i (by omega), fy 108 i (by omega) (by omega) (by omega) (by omega)]
    · exact ((fx2.tr a6.q).tr (qx_5 m5o)).tr (qx_6 m6o)
    · exact (fy2.tr a7.q).tr (qy_6 n6o)
end
