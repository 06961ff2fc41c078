/-! ===== a law is read: factors ===== -/
theorem let_cases (h : Int) (N : pz_M) : (∃ r : Nat, r ≤ 9 ∧ 99 ≤ h ∧ plc [112, 99, 115, 118, 117, 100, 113, 114, 116, 119] h 0 = (r : Int) ∧ m_Mod_factOf h N = some (some (pzI (r : Int)), N)) ∨ (plc [112, 99, 115, 118, 117, 100, 113, 114, 116, 119] h 0 = -1 ∧ m_Mod_factOf h N = some (some (pzI (-1)), N)) := by
  by_cases c0 : h = 112
  · subst c0; left; exact ⟨0, by omega, by omega, rfl, by rw [m_Mod_factOf_eq]; rfl⟩
  by_cases c1 : h = 99
  · subst c1; left; exact ⟨1, by omega, by omega, rfl, by rw [m_Mod_factOf_eq]; rfl⟩
  by_cases c2 : h = 115
  · subst c2; left; exact ⟨2, by omega, by omega, rfl, by rw [m_Mod_factOf_eq]; rfl⟩
  by_cases c3 : h = 118
  · subst c3; left; exact ⟨3, by omega, by omega, rfl, by rw [m_Mod_factOf_eq]; rfl⟩
  by_cases c4 : h = 117
  · subst c4; left; exact ⟨4, by omega, by omega, rfl, by rw [m_Mod_factOf_eq]; rfl⟩
  by_cases c5 : h = 100
  · subst c5; left; exact ⟨5, by omega, by omega, rfl, by rw [m_Mod_factOf_eq]; rfl⟩
  by_cases c6 : h = 113
  · subst c6; left; exact ⟨6, by omega, by omega, rfl, by rw [m_Mod_factOf_eq]; rfl⟩
  by_cases c7 : h = 114
  · subst c7; left; exact ⟨7, by omega, by omega, rfl, by rw [m_Mod_factOf_eq]; rfl⟩
  by_cases c8 : h = 116
  · subst c8; left; exact ⟨8, by omega, by omega, rfl, by rw [m_Mod_factOf_eq]; rfl⟩
  by_cases c9 : h = 119
  · subst c9; left; exact ⟨9, by omega, by omega, rfl, by rw [m_Mod_factOf_eq]; rfl⟩
  right
  constructor
  · show (if 112 = h then _ else if 99 = h then _ else if 115 = h then _ else if 118 = h then _ else if 117 = h then _ else if 100 = h then _ else if 113 = h then _ else if 114 = h then _ else if 116 = h then _ else if 119 = h then _ else (-1 : Int)) = -1
    rw [if_neg (by omega), if_neg (by omega), if_neg (by omega), if_neg (by omega), if_neg (by omega), if_neg (by omega), if_neg (by omega), if_neg (by omega), if_neg (by omega), if_neg (by omega)]
  · have k : ∀ (P : Prop) [Decidable P] (X A : Option pz_A), X = A → (if P then A else X) = A := fun P _ X A z => by
      by_cases q : P
      · rw [if_pos q]
      · rw [if_neg q]; exact z
    rw [m_Mod_factOf_eq, if_neg c1, if_neg c5]
    refine k _ _ _ (k _ _ _ (k _ _ _ (k _ _ _ (k _ _ _ (k _ _ _ (k _ _ _ (k _ _ _ (k _ _ _ (k _ _ _ (k _ _ _ ?_))))))))))
    rw [if_neg c0, if_neg c6, if_neg c7, if_neg c2, if_neg c8, if_neg c4, if_neg c3, if_neg c9]
section
variable {ks cs ms e : Nat} {t : Nat → Int}
theorem fac_step (hk : ks = 13 ∨ ks = 21) (hm : ms ≤ cs) (he : e ≤ 240) {m : Nat} (hS : ∀ p, e - p < m → SumP ks cs ms e t p) : ∀ p, e - p < m + 1 → FacP ks cs ms e t p := by
  intro p hp d o L base g M N W s w h hc hw hl ho hd hb
  have x := h.1
  have y := h.2.1
  have hpe := x.2.2.1
  unfold refF
  rw [m_LawReader_readFactor_eq _ _ _ _ (lw_cls hk).1, grd_pos (by omega), Tape_peek x, bI_some, m_Mod_readsFactor_eq, Mod_here y, bI_some]
  by_cases c91 : hr p e t = 91
  · have hpl := hr_lt (show 0 ≤ hr p e t by omega)
    rw [if_pos c91, if_pos c91]
    by_cases c6 : o < 6
    · obtain ⟨N1, a1, a2, a3, a4⟩ := opens_ok hk h hpl (by omega) (k := 14) ⟨by omega, by omega⟩ (by omega) (by omega) c6
      have a1' : m_Mod_opens 14 N = some (some (pzI 1), N1) := a1
      rw [if_pos (show (o : Int) < 6 by omega), grd_pos (by omega), Tape_step x, bV_some, grd_pos (by omega), m_LawReader_readSum_eq _ _ _ _ (lw_cls hk).1, ia_eq (x := (o : Int)) (by omega) (by omega), a1', bI_some, if_neg (show ¬ (1 : Int) = 0 by decide), rf_0]
      have hwl : wl ((14, 0) :: W) = wl W + 1 := rfl
      have hwn : ((14, 0) :: W).length = W.length + 1 := rfl
      have st := hS (p + 1) (by omega) (d - 1) (o + 1) L base 0 g _ N1 ((14, 0) :: W) s none none w (fun r z => by cases z) (fun r z => by cases z) a2 (by show ¬ ((2 : Int) ≤ ((14 : Nat) : Int) ∧ ((14 : Nat) : Int) ≤ 6); omega) (by show cs + L + wl ((14, 0) :: W) + g ≤ p + 1; omega) (by show ((14, 0) :: W).length ≤ p + 1; omega) (by omega) (by omega) (by omega) (by omega) (by omega)
      rcases st with ⟨M2, N2, b1, b2, b3, b4, b5, b6⟩ | ⟨M2, N2, N3, p2, L2, w2, P, b1, b2, b3, b4, b5, b6, b7, b8, b9, b10, b11, b12, b13, b14, b15⟩
      · have b1' : m_LawReader_readSum_8 (d - 1) ks ((o : Int) + 1) (-1) (-1) 0 (pz_wr M 29 2 ((p : Int) + 1)) = some (some (pzI 0), M2) := b1
        left
        rw [b1', bI_some, if_pos rfl]
        exact ⟨M2, N2, rfl, b2, b3, a3.tr b4, a4.tr b5, b6⟩
      · have b1' : m_LawReader_readSum_8 (d - 1) ks ((o : Int) + 1) (-1) (-1) 0 (pz_wr M 29 2 ((p : Int) + 1)) = some (some (pzI 1), M2) := b1
        have b2' : (bI (m_Mod_readsFactor N1) fun r N1 => if r = 0 then some (some (pzI 0), N1) else m_Mod_readsSum_14 base w N1) = m_Mod_readsSum_14 base w2 N2 := b2
        have x2 := b10.1
        have hp2 := x2.2.2.1
        obtain ⟨k1, k2⟩ := K_in (base := base) (w := w2) b3 b4 b6 b5 b8 hb
        rw [b1', bI_some, if_neg (show ¬ (1 : Int) = 0 by decide), grd_pos (by omega), m_Tape_pass_eq, Tape_peek x2, bI_some, b2']
        by_cases c93 : hr p2 e t = 93
        · have hpl2 := hr_lt (show 0 ≤ hr p2 e t by omega)
          right
          have q1 := pq_pop b10 rfl ⟨by omega, by omega⟩ (by omega)
          have e13 : pz_wr N3 100 15 (isb (N3 100 15) 1) 100 13 = ((o + 1 : Nat) : Int) := q1.2.2.2.1
          have q2 := pq_open q1 o
          have q3 := pq_step hk q2 hpl2
          have e9 : pz_wr (pz_wr N3 100 15 (isb (N3 100 15) 1)) 100 13 (o : Int) 100 9 = (p2 : Int) := q2.2.1.1
          rw [if_pos c93, Tape_step x2, bV_some, bI_some, if_neg (show ¬ (1 : Int) = 0 by decide), k1 c93, b9, bV_some, bM_eq, bM_eq, bM_eq, e13, isb_eq (x := ((o + 1 : Nat) : Int)) (by omega) (by omega), show ((o + 1 : Nat) : Int) - 1 = (o : Int) by omega, e9, ia_eq (x := (p2 : Int)) (by omega) (by omega)]
          exact ⟨_, _, p2 + 1, L2, _, rfl, rfl, q3, by omega, by omega, (a3.tr b13).tr ((pX.rf M2).wr (Or.inl ⟨rfl, by omega⟩)), ((a4.tr b14).tr (((pY.rf N3).wr (Or.inl ⟨rfl, by omega⟩)).wr (Or.inl ⟨rfl, by omega⟩))).tr ((pY.rf _).wr (Or.inl ⟨rfl, by omega⟩))⟩
        · left
          rw [if_neg c93, fail_X x2, bI_some, grd_pos (by omega), bI_some, if_pos rfl, k2 c93]
          exact ⟨_, _, rfl, rfl, by rw [wr_same, wr_same], (a3.tr b13).wr (Or.inl ⟨rfl, by omega⟩), (a4.tr b15).wr (Or.inl ⟨rfl, by omega⟩), by rw [wr_cell (by omega), pq_6 b10]; omega⟩
    · have o6 : o = 6 := by omega
      left
      rw [if_neg (show ¬ (o : Int) < 6 by omega), grd_pos (by omega), fail_X x, bI_some, grd_pos (by omega), opens_no h o6, bI_some, if_pos rfl, bI_some, if_pos rfl]
      exact bad_at hk h _ rfl rfl
  · rw [if_neg c91, if_neg c91, grd_pos (by omega), in_82 x, bI_some, Mod_isDigit y, bI_some, b01_ite]
    have six := (show M ks 6 = ((cs + L : Nat) : Int) from by obtain ⟨_, _, _, q, _⟩ := h.2.2.2.2.2.2; exact q.1)
    by_cases dgt : dg (hr p e t)
    · have dgt' := dgt
      unfold dg at dgt'
      have hpl : plc [112, 99, 115, 118, 117, 100, 113, 114, 116, 119] (hr p e t) 0 = -1 := by
        rcases let_cases (hr p e t) N with ⟨r, _, q, _⟩ | q
        · omega
        · exact q.1
      rw [hpl, if_pos (show (-1 : Int) < 0 by decide), grd_pos (by omega), if_pos dgt]
      rcases num_5 x y dgt with ⟨M1, N1, a1, a2, a3⟩ | ⟨M1, N1, p1, v, a1, a2, a3, a4, a5, a6, a7, a8, a9, a10⟩
      · left
        have e6 : M1 ks 6 = ((cs + L : Nat) : Int) := by rw [a3.2.1 ks 6 (by omega)]; exact six
        rw [a1, bI_some, grd_pos (by omega), add_ok hk e6 (by omega), bI_some, if_pos (show (-1 : Int) < 0 by decide), a2, bI_some, if_pos rfl, bI_some, if_pos rfl]
        exact ⟨_, _, rfl, rfl, by rw [wr_cell (by omega), wr_cell (by omega), wr_cell (by omega)]; exact a3.1, ((a3.2.1.p.wr (Or.inr (Or.inr ⟨by omega, by omega⟩))).wr (Or.inr (Or.inr ⟨by omega, by omega⟩))).wr (Or.inr (Or.inl ⟨rfl, rfl⟩)), a3.2.2.p, by rw [wr_same]; omega⟩
      · right
        obtain ⟨v', hv'⟩ : ∃ v' : Nat, v = (v' : Int) := ⟨v.toNat, by omega⟩
        subst hv'
        have h1 := pq_f hk h a6 a7 a9 a10
        have hlen := h1.2.2.2.2.1
        have hv5 : ((10 ^ 5 : Nat) : Int) = 100000 := by decide
        obtain ⟨M2, N2, b1, b2, b3, b4, b5⟩ := pq_emit hk hm h1 (by omega) (by omega) (o' := 0) (a := v') (cur' := false :: s) (by omega) (by omega) (Or.inl ⟨by omega, rfl, fun z => by omega⟩)
        have b1' : m_Law_addStep ks 1 (v' : Int) M1 = some (some (pzI ((cs + L : Nat) : Int)), M2) := b1
        have b2' : m_Mod_notes 0 (v' : Int) N1 = some (none, N2) := b2
        have hpp := a6.2.2.1
        rw [a1, bI_some, grd_pos (by omega), b1', bI_some, if_neg (show ¬ (v' : Int) < 0 by omega), a2, bI_some, if_neg (show ¬ (1 : Int) = 0 by decide), a3, b2', bV_some, bI_some, if_neg (show ¬ (1 : Int) = 0 by decide)]
        exact ⟨M2, N2, p1, L + 1, w, rfl, rfl, b3, by omega, a8, a9.p.tr b4, a10.p.tr b5⟩
    · rw [if_neg dgt, Mod_here y, bI_some]
      rcases let_cases (hr p e t) N with ⟨r, r9, q1, q2, q3⟩ | ⟨q2, q3⟩
      · have hpl := hr_lt (show 0 ≤ hr p e t by omega)
        right
        have h1 := pq_step hk h hpl
        obtain ⟨M2, N2, b1, b2, b3, b4, b5⟩ := pq_emit hk hm h1 (by omega) (by omega) (o' := 1) (a := r) (cur' := false :: s) (by omega) (by omega) (Or.inl ⟨by omega, rfl, fun _ => by omega⟩)
        have b1' : m_Law_addStep ks 2 (r : Int) (pz_wr M 29 2 ((p : Int) + 1)) = some (some (pzI ((cs + L : Nat) : Int)), M2) := b1
        have e14 : N 100 14 = ((ms + L : Nat) : Int) := by obtain ⟨_, _, _, q, _⟩ := h.2.2.2.2.2.2; exact q.2.1
        have n1 := notes_ok (N := N) e14 (by omega) (o' := 1) (a := r) (by omega) (by omega)
        have n1' : m_Mod_notes 1 (r : Int) N = some (none, pz_wr (pz_wr N 108 (ms + L) (1048576 * ((1 : Nat) : Int) + (r : Int))) 100 14 (((ms + L : Nat) : Int) + 1)) := n1
        have n2 := notes_ok (N := pz_wr N 100 9 ((p : Int) + 1)) (n := ms + L) (by rw [wr_idx (by decide)]; exact e14) (by omega) (o' := 1) (a := r) (by omega) (by omega)
        have eN : N2 = pz_wr (pz_wr (pz_wr N 100 9 ((p : Int) + 1)) 108 (ms + L) (1048576 * ((1 : Nat) : Int) + (r : Int))) 100 14 (((ms + L : Nat) : Int) + 1) := by
          have := b2.symm.trans n2
          exact (Prod.mk.inj (Option.some.inj this)).2
        rw [q2, if_neg (show ¬ (r : Int) < 0 by omega), grd_pos (by omega), Tape_step x, bV_some, grd_pos (by omega), b1', bI_some, q3, bI_some, if_neg (show ¬ (r : Int) = -1 by omega), n1', bV_some, bM_eq, wr_idx (show 9 ≠ 14 by decide), wr_cell (show (100 : Nat) ≠ 108 by decide), step_Y y, bI_some, if_neg (show ¬ (1 : Int) = 0 by decide), wr_comm (a := 100) (b := 14) (c := 100) (d := 9) (Or.inr (by decide)), wr_comm (a := 108) (c := 100) (d := 9) (Or.inl (by decide)), ← eN]
        exact ⟨M2, N2, p + 1, L + 1, w, rfl, rfl, b3, by omega, by omega, ((pX.rf M).wr (Or.inl ⟨rfl, by omega⟩)).tr b4, ((pY.rf N).wr (Or.inl ⟨rfl, by omega⟩)).tr b5⟩
      · left
        have e6 : pz_wr M 29 4 (isb (imu (-1000) 1) p) ks 6 = ((cs + L : Nat) : Int) := by rw [wr_cell (by omega)]; exact six
        have e29 : m_Tape_readNumber_29 (pzI 5) 0 0 (pzI (hr p e t)) M = some (some (pzI (-1)), pz_wr M 29 4 (isb (imu (-1000) 1) p)) := by rw [m_Tape_readNumber_29_eq, if_neg (by decide), fail_X x, bI_some]
        have en : m_Tape_readNumber 5 M = some (some (pzI (-1)), pz_wr M 29 4 (isb (imu (-1000) 1) p)) := by
          rw [m_Tape_readNumber_eq, m_Tape_readNumber_4_eq, if_pos (by decide), Tape_peek x, bI_some]
          by_cases d1 : hr p e t < 48
          · rw [if_pos d1]; exact e29
          · rw [if_neg d1, if_pos (show 57 < hr p e t by unfold dg at dgt; omega)]; exact e29
        rw [q2, if_pos (show (-1 : Int) < 0 by decide), grd_pos (by omega), en, bI_some, grd_pos (by omega), add_ok hk e6 (by omega), bI_some, if_pos (show (-1 : Int) < 0 by decide), q3, bI_some, if_pos rfl, fail_Y, bI_some, grd_pos (by omega), bI_some, if_pos rfl, y.1]
        exact ⟨_, _, rfl, rfl, by rw [wr_cell (by omega), wr_cell (by omega), wr_cell (by omega), wr_same, wr_same], ((((pX.rf M).wr (Or.inl ⟨rfl, by omega⟩)).wr (Or.inr (Or.inr ⟨by omega, by omega⟩))).wr (Or.inr (Or.inr ⟨by omega, by omega⟩))).wr (Or.inr (Or.inl ⟨rfl, rfl⟩)), (pY.rf N).wr (Or.inl ⟨rfl, by omega⟩), by rw [wr_same]; omega⟩
end
