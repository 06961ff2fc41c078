/-! ===== a law is read: a whole condition ===== -/
section
variable {ks cs ms e : Nat} {t : Nat → Int}
theorem jl (A R : Option Nat) (W : List (Nat × Nat)) : (jA A ++ (jR R ++ (13, 0) :: W)).length ≤ W.length + 3 ∧ (jR R ++ (13, 0) :: W).length ≤ W.length + 2 ∧ W.length + 1 ≤ (jR R ++ (13, 0) :: W).length ∧ (jR R ++ (13, 0) :: W).length ≤ (jA A ++ (jR R ++ (13, 0) :: W)).length ∧ wl (jA A ++ (jR R ++ (13, 0) :: W)) = wl W + 1 ∧ wl (jR R ++ (13, 0) :: W) = wl W + 1 := by
  cases A <;> cases R <;> simp [jA, jR, wl]
theorem jt_top (A R : Option Nat) (W : List (Nat × Nat)) : 10 ≤ tpW (jA A ++ (jR R ++ (13, 0) :: W)) ∧ tpW (jA A ++ (jR R ++ (13, 0) :: W)) ≠ 10 ∧ tpW (jR R ++ (13, 0) :: W) ≠ 11 := by
  cases A <;> cases R <;> simp [jA, jR, tpW]
theorem cho_step (hk : ks = 13 ∨ ks = 21) (hm : ms ≤ cs) (he : e ≤ 240) {m : Nat} (hT : ∀ p, e - p < m → TstP ks cs ms e t p) : ∀ n p, e - p ≤ n → e - p < m → ChoP ks cs ms e t p := by
  intro n
  induction n with
  | zero =>
    intro p hn hpm d o L i M N W A R h hc hw hi ho1 ho hd
    have hpe := h.1.2.2.1
    have hjl := jl A R W
    have hjt := jt_top A R W
    rcases hT p hpm (d - 1) o L M N _ h hjt.1 hc hw ho1 ho (by omega) with ⟨M1, N1, a1, a2, a3, a4, a5, a6⟩ | ⟨M1, N1, p1, L1, a1, a2, a3, a4, a5, a6, a7⟩
    · left
      rw [m_LawReader_readChoice_8_eq _ _ _ _ _ _ _ (lw_cls hk).1, if_pos (show (i : Int) < 256 by omega), grd_pos (by omega), a1, bI_some, if_pos rfl]
      exact ⟨M1, N1, rfl, a2, a3, a4, a5, a6⟩
    · have := a3.1.2.2.1
      omega
  | succ n ih =>
    intro p hn hpm d o L i M N W A R h hc hw hi ho1 ho hd
    have hpe := h.1.2.2.1
    have hjl := jl A R W
    have hjt := jt_top A R W
    rw [m_LawReader_readChoice_8_eq _ _ _ _ _ _ _ (lw_cls hk).1, if_pos (show (i : Int) < 256 by omega), grd_pos (by omega)]
    rcases hT p hpm (d - 1) o L M N _ h hjt.1 hc hw ho1 ho (by omega) with ⟨M1, N1, a1, a2, a3, a4, a5, a6⟩ | ⟨M1, N1, p1, L1, a1, a2, a3, a4, a5, a6, a7⟩
    · left
      rw [a1, bI_some, if_pos rfl]
      exact ⟨M1, N1, rfl, a2, a3, a4, a5, a6⟩
    · have hp1 := a3.1.2.2.1
      have y1 := a3.2.1
      obtain ⟨M2, N2, b1, b2, b3, b4, b5⟩ := land_A hk hm a3 (by omega) (by omega)
      have x2 := b3.1
      have e92 : m_Mod_readsCondition_40 N = m_Mod_readsCondition_92 N1 := by rw [a2, ep_end a3 (by omega) hjt.2.1, bV_some]
      rw [a1, bI_some, if_neg (show ¬ (1 : Int) = 0 by decide), grd_pos (by omega), b1, bV_some, grd_pos (by omega), Tape_peek x2, bI_some, e92]
      by_cases c38 : hr p1 e t = 38
      · have hpl := hr_lt (show 0 ≤ hr p1 e t by omega)
        obtain ⟨M3, N3, c1, c2, c3, c5, c6, c7⟩ := pq_jump (k := 11) hk hm b3 (Or.inl rfl) hpl (by omega) (by omega)
        have c1' : m_Law_addStep ks 4 0 M2 = some (some (pzI ((cs + L1 : Nat) : Int)), M3) := c1
        have c2' : m_Mod_jumps 11 N2 = some (none, N3) := c2
        obtain ⟨w', hw'⟩ := b2 0 pzN
        have ld : m_Mod_lands 0 N1 = some (none, N2) := by rw [la_0, hw', land_E b3 (by omega) hjt.2.2 0 (Or.inl rfl)]
        have eY : m_Mod_readsCondition_92 N1 = m_Mod_readsCondition_40 N3 := by
          rw [m_Mod_readsCondition_92_eq, Mod_here y1, bI_some, if_neg (show ¬ hr p1 e t = 41 by omega), Mod_here y1, bI_some, if_pos c38, m_Mod_readsCondition_180_eq, Mod_here y1, bI_some, if_neg (show ¬ hr p1 e t = 124 by omega), m_Mod_readsCondition_195_eq, ld, bV_some, Mod_here b3.2.1, bI_some, if_pos c38, m_Mod_readsCondition_215_eq, c2', bV_some]
        rw [if_pos c38, grd_pos (by omega), c1', bI_some, m_LawReader_readChoice_78_eq _ _ _ _ _ _ _ (lw_cls hk).1, grd_pos (by omega), Tape_step c3, bV_some, ia_eq (x := (i : Int)) (by omega) (by omega), eY]
        have hjl2 := jl (some L1) R W
        have hln : (jA (some L1) ++ (jR R ++ (13, 0) :: W)).length = (jR R ++ (13, 0) :: W).length + 1 := rfl
        rcases ih (p1 + 1) (by omega) (by omega) d o (L1 + 1) (i + 1) _ N3 W (some L1) R c5 (by omega) (by omega) (by omega) ho1 ho hd with z | ⟨M', N4, N', p', L', z1, z2, z3, z4, z5, z6, z7, z8, z9, z10, z11, z12⟩
        · exact Or.inl (bad_tr ((a6.tr b4).tr c6) ((a7.tr b5).tr c7) z)
        · exact Or.inr ⟨M', N4, N', p', L', z1, z2, z3, z4, z5, z6, z7, z8, by omega, ((a6.tr b4).tr c6).tr z10, ((a7.tr b5).tr c7).tr z11, ((a7.tr b5).tr c7).tr z12⟩
      · obtain ⟨M3, N3, d1, d2, d3, d4, d5⟩ := land_R hk hm b3 (by show W.length + 1 + 1 < 260; omega) (by omega)
        have x3 := d3.1
        obtain ⟨w', hw'⟩ := b2 1 pzN
        obtain ⟨w2, hw2⟩ := d2 w'
        have ld : m_Mod_lands 1 N1 = some (none, N3) := by rw [la_0, hw', hw2, land_E d3 (by show W.length + 1 < 260; omega) (by show ((13 : Nat) : Int) ≠ 11; decide) 1 (Or.inr (by show ((13 : Nat) : Int) ≠ 12; decide))]
        rw [if_neg c38, grd_pos (by omega), d1, bV_some, grd_pos (by omega), Tape_peek x3, bI_some]
        by_cases c124 : hr p1 e t = 124
        · have hpl := hr_lt (show 0 ≤ hr p1 e t by omega)
          obtain ⟨M4, N4, c1, c2, c3, c5, c6, c7⟩ := pq_jump (k := 12) hk hm d3 (Or.inr rfl) hpl (by show W.length + 1 < 260; omega) (by omega)
          have c1' : m_Law_addStep ks 5 0 M3 = some (some (pzI ((cs + L1 : Nat) : Int)), M4) := c1
          have c2' : m_Mod_jumps 12 N3 = some (none, N4) := c2
          have eY : m_Mod_readsCondition_92 N1 = m_Mod_readsCondition_40 N4 := by
            rw [m_Mod_readsCondition_92_eq, Mod_here y1, bI_some, if_neg (show ¬ hr p1 e t = 41 by omega), Mod_here y1, bI_some, if_neg c38, Mod_here y1, bI_some, if_pos c124, m_Mod_readsCondition_180_eq, Mod_here y1, bI_some, if_pos c124, m_Mod_readsCondition_195_eq, ld, bV_some, Mod_here d3.2.1, bI_some, if_neg c38, m_Mod_readsCondition_215_eq, c2', bV_some]
          rw [if_pos c124, grd_pos (by omega), c1', bI_some, m_LawReader_readChoice_78_eq _ _ _ _ _ _ _ (lw_cls hk).1, grd_pos (by omega), Tape_step c3, bV_some, ia_eq (x := (i : Int)) (by omega) (by omega), eY]
          have hjl2 := jl none (some L1) W
          rcases ih (p1 + 1) (by omega) (by omega) d o (L1 + 1) (i + 1) _ N4 W none (some L1) c5 (by omega) (by omega) (by omega) ho1 ho hd with z | ⟨M', N5, N', p', L', z1, z2, z3, z4, z5, z6, z7, z8, z9, z10, z11, z12⟩
          · exact Or.inl (bad_tr (((a6.tr b4).tr d4).tr c6) (((a7.tr b5).tr d5).tr c7) z)
          · exact Or.inr ⟨M', N5, N', p', L', z1, z2, z3, z4, z5, z6, z7, z8, by omega, (((a6.tr b4).tr d4).tr c6).tr z10, (((a7.tr b5).tr d5).tr c7).tr z11, (((a7.tr b5).tr d5).tr c7).tr z12⟩
        · right
          rw [if_neg c124]
          have hw13 : wl ((13, 0) :: W) = wl W + 1 := rfl
          exact ⟨M3, N1, N3, p1, L1, rfl, rfl, y1, c38, c124, ld, d3, by omega, a5, (a6.tr b4).tr d4, (a7.tr b5).tr d5, a7⟩
theorem tests (hk : ks = 13 ∨ ks = 21) (hm : ms ≤ cs) (he : e ≤ 240) : ∀ m p, e - p < m → TstP ks cs ms e t p ∧ ChoP ks cs ms e t p := by
  intro m
  induction m with
  | zero => intro p hp; omega
  | succ m ih =>
    intro p hp
    have hF : ∀ p, e - p < m + 1 → TstP ks cs ms e t p := test_step hk hm he ih
    exact ⟨hF p hp, cho_step hk hm he hF (e - p) p (Nat.le_refl _) hp⟩
/-- a condition in its brackets -/
theorem top_cond (hk : ks = 13 ∨ ks = 21) (hm : ms ≤ cs) (he : e ≤ 240) {p o : Nat} {M N : pz_M} {W : List (Nat × Nat)} (h : PQ ks cs ms e t M N p o 0 W []) (hWj : ∀ k j, (k = 11 ∨ k = 12) → (k, j) ∉ W) (hc : cs ≤ p) {K : pz_M → Option pz_A} : (∃ M' N', (bI (m_Tape_pass 40 M) fun r4 M3 => if r4 = 0 then some (some (pzI 0), M3) else (bI (m_LawReader_readChoice (59) ks 1 M3) fun r6 M5 => if r6 = 0 then some (some (pzI 0), M5) else (bI (m_Tape_pass 41 M5) fun r8 M7 => if r8 = 0 then some (some (pzI 0), M7) else K M7))) = some (some (pzI 0), M') ∧ m_Mod_readsCondition N = some (some (pzI 0), N') ∧ M' 29 4 = N' 100 11 ∧ pX ks cs M M' ∧ pY ms N N') ∨ ∃ (M' N' : pz_M) (p' L' : Nat), (bI (m_Tape_pass 40 M) fun r4 M3 => if r4 = 0 then some (some (pzI 0), M3) else (bI (m_LawReader_readChoice (59) ks 1 M3) fun r6 M5 => if r6 = 0 then some (some (pzI 0), M5) else (bI (m_Tape_pass 41 M5) fun r8 M7 => if r8 = 0 then some (some (pzI 0), M7) else K M7))) = K M' ∧ m_Mod_readsCondition N = some (some (pzI 1), N') ∧ PQ ks cs ms e t M' N' p' 0 L' [] [true] ∧ cs + L' + 1 ≤ p' ∧ p < p' ∧ pX ks cs M M' ∧ pY ms N N' := by
  have x := h.1
  have y := h.2.1
  have hpe := x.2.2.1
  rw [m_Tape_pass_eq, Tape_peek x, bI_some, m_Mod_readsCondition_eq, Mod_here y, bI_some]
  by_cases c40 : hr p e t = 40
  · have hpl := hr_lt (show 0 ≤ hr p e t by omega)
    have h0 : PQ ks cs ms e t M (pz_wr (pz_wr N 100 13 0) 100 15 0) p 0 0 [] [] := by
      have h' := h
      obtain ⟨h1, h2, h3, h4, h5, h6, -⟩ := h'
      exact pq_upd h h1 ((h2.wr (by decide) (by decide)).wr (by decide) (by decide)) (by rw [wr_idx (by decide), wr_same]; rfl) wr_same trivial rfl (by rw [wr_idx (by decide), wr_idx (by decide)]) (fun _ => rfl) (fun _ => rfl) (fun i => by rw [wr_cell (by decide), wr_cell (by decide)]) (fun k j z => ⟨fun q => (List.not_mem_nil q).elim, fun q => absurd q (hWj k j z)⟩)
    obtain ⟨N1, a1, a2, a3, a4⟩ := opens_ok hk h0 hpl (by decide) (k := 13) ⟨by omega, by omega⟩ (by omega) (by omega) (by omega)
    have a1' : m_Mod_opens 13 (pz_wr (pz_wr N 100 13 0) 100 15 0) = some (some (pzI 1), N1) := a1
    have fy0 : pY ms N (pz_wr (pz_wr N 100 13 0) 100 15 0) := ((pY.rf N).wr (Or.inl ⟨rfl, by omega⟩)).wr (Or.inl ⟨rfl, by omega⟩)
    rw [if_pos c40, if_pos c40, Tape_step x, bV_some, bI_some, if_neg (show ¬ (1 : Int) = 0 by decide), bM_eq, bM_eq, a1', bI_some, if_neg (show ¬ (1 : Int) = 0 by decide), m_LawReader_readChoice_eq _ _ _ _ (lw_cls hk).1]
    rcases (tests hk hm he (e - (p + 1) + 1) (p + 1) (by omega)).2 59 1 0 0 _ N1 [] none none a2 (by show cs + 0 + 1 ≤ p + 1; omega) (by show 1 ≤ p + 1; omega) (by omega) (by omega) (by omega) (by omega) with ⟨M2, N2, b1, b2, b3, b4, b5, b6⟩ | ⟨M2, N2, N3, p2, L2, b1, b2, b3, b4, b5, b6, b7, b8, b9, b10, b11, b12⟩
    · left
      have b1' : m_LawReader_readChoice_8 59 ks 1 (-1) (-1) 0 (pz_wr M 29 2 ((p : Int) + 1)) = some (some (pzI 0), M2) := b1
      rw [b1', bI_some, if_pos rfl, b2]
      exact ⟨M2, N2, rfl, rfl, b3, a3.tr b4, (fy0.tr a4).tr b5⟩
    · have b1' : m_LawReader_readChoice_8 59 ks 1 (-1) (-1) 0 (pz_wr M 29 2 ((p : Int) + 1)) = some (some (pzI 1), M2) := b1
      have x2 := b7.1
      have hp2 := x2.2.2.1
      have b8' : cs + L2 + 1 ≤ p2 := b8
      rw [b1', bI_some, if_neg (show ¬ (1 : Int) = 0 by decide), m_Tape_pass_eq, Tape_peek x2, bI_some, b2, m_Mod_readsCondition_92_eq, Mod_here b3, bI_some]
      by_cases c41 : hr p2 e t = 41
      · have hpl2 := hr_lt (show 0 ≤ hr p2 e t by omega)
        right
        have q1 := pq_pop b7 rfl ⟨by omega, by omega⟩ (by decide)
        have e13 : pz_wr N3 100 15 (isb (N3 100 15) 1) 100 13 = ((1 : Nat) : Int) := q1.2.2.2.1
        have q2 := pq_open q1 0
        have q3 := pq_step hk q2 hpl2
        have e9 : pz_wr (pz_wr N3 100 15 (isb (N3 100 15) 1)) 100 13 ((0 : Nat) : Int) 100 9 = (p2 : Int) := q2.2.1.1
        have e15 := q3.2.2.2.2.1
        rw [if_pos c41, if_pos c41, Tape_step x2, bV_some, bI_some, if_neg (show ¬ (1 : Int) = 0 by decide), b6, bV_some, bM_eq, bM_eq, bM_eq, e13, isb_eq (x := ((1 : Nat) : Int)) (by omega) (by omega), show ((1 : Nat) : Int) - 1 = ((0 : Nat) : Int) by omega, e9, ia_eq (x := (p2 : Int)) (by omega) (by omega), e15, if_pos (show ((([] : List (Nat × Nat)).length : Nat) : Int) = 0 from rfl)]
        exact ⟨_, _, p2 + 1, L2, rfl, rfl, q3, by omega, by omega, (a3.tr b10).tr ((pX.rf M2).wr (Or.inl ⟨rfl, by omega⟩)), (((fy0.tr a4).tr b11).tr (((pY.rf N3).wr (Or.inl ⟨rfl, by omega⟩)).wr (Or.inl ⟨rfl, by omega⟩))).tr ((pY.rf _).wr (Or.inl ⟨rfl, by omega⟩))⟩
      · left
        rw [if_neg c41, if_neg c41, fail_X x2, bI_some, grd_pos (by omega), bI_some, if_pos rfl, Mod_here b3, bI_some, if_neg b4, Mod_here b3, bI_some, if_neg b5, fail_Y, bI_some, grd_pos (by omega), b3.1]
        exact ⟨_, _, rfl, rfl, by rw [wr_same, wr_same], (a3.tr b10).wr (Or.inl ⟨rfl, by omega⟩), ((fy0.tr a4).tr b12).wr (Or.inl ⟨rfl, by omega⟩)⟩
  · left
    rw [if_neg c40, if_neg c40, fail_X x, bI_some, grd_pos (by omega), bI_some, if_pos rfl, fail_Y, bI_some, grd_pos (by omega), y.1]
    exact ⟨_, _, rfl, rfl, by rw [wr_same, wr_same], (pX.rf M).wr (Or.inl ⟨rfl, by omega⟩), (pY.rf N).wr (Or.inl ⟨rfl, by omega⟩)⟩
end
