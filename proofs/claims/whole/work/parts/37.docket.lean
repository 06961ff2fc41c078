/-! docket: the reading -/
theorem num_2' {e p : Nat} {t : Nat → Int} {M N : pz_M} (hX : txX M p e t) (hN : txY N p e t) : numb 2 (m_Tape_readNumber 2 M) (m_Mod_readsAmount N) M N p e t := by
  by_cases d : dg (hr p e t)
  · exact num_2 hX hN d
  · left
    rw [m_Mod_readsAmount_eq, Mod_isDigit hN, bI_some, b01_ite, if_neg d, hN.1, fail_Y, bI_some, grd_pos (by omega), m_Tape_readNumber_eq, m_Tape_readNumber_4_eq, if_pos (show (0 : Int) < 2 by omega), Tape_peek hX, bI_some]
    have ex : ∀ w1 w4, m_Tape_readNumber_29 w1 0 0 w4 M = some (some (pzI (-1)), pz_wr M 29 4 (isb (imu (-1000) 1) p)) := by
      intro w1 w4
      rw [m_Tape_readNumber_29_eq, if_neg (by omega), fail_X hX, bI_some]
    refine ⟨_, _, ?_, rfl, flt_at (fX.rf M) (fY.rf N) _⟩
    by_cases d1 : hr p e t < 48
    · rw [if_pos d1]; exact ex _ _
    · rw [if_neg d1, if_pos (show 57 < hr p e t by unfold dg at d; omega)]; exact ex _ _
def kXd (ks : Nat) (M M' : pz_M) : Prop := ∀ c i, cX c i = true → ¬ (ks ≤ c ∧ c ≤ ks + 5) → M' c i = M c i
theorem kXd.rf (ks : Nat) (M : pz_M) : kXd ks M M := fun _ _ _ _ => rfl
theorem kXd.tr {ks : Nat} {M M1 M2 : pz_M} (h : kXd ks M M1) (h2 : kXd ks M1 M2) : kXd ks M M2 := fun c i q z => (h2 c i q z).trans (h c i q z)
theorem kX.tod {ks : Nat} {M M1 : pz_M} (h : kX M M1) : kXd ks M M1 := fun c i q _ => h c i q
theorem kXd.wr {ks : Nat} {M M1 : pz_M} {k j : Nat} {x : Int} (h : kXd ks M M1) (hc : ks ≤ k ∧ k ≤ ks + 5) : kXd ks M (pz_wr M1 k j x) := by
  intro c i q z
  unfold pz_wr
  rw [if_neg (fun y => z (by rw [y.1]; exact hc))]
  exact h c i q z
def rpl (p s : Int) : Prop := (p = 9 ∧ s = -1) ∨ (0 ≤ p ∧ p ≤ 8 ∧ s = p)
def eyD (M N : pz_M) (ks : Nat) : Prop := ∀ q, q < 9 → M (ks + 5) q = 12 - N 125 q ∧ 0 ≤ N 125 q ∧ N 125 q ≤ 12
def cwD (M N : pz_M) (ks c : Nat) : Prop := M (ks + 1) c = N 121 c ∧ 0 ≤ N 121 c ∧ N 121 c ≤ 15 ∧ M (ks + 2) c = N 122 c ∧ 0 ≤ N 122 c ∧ N 122 c ≤ 99 ∧ M (ks + 3) c = N 123 c ∧ 0 ≤ N 123 c ∧ N 123 c ≤ 1
def rdD (M N : pz_M) (ks l : Nat) : Prop := M ks 5 = l ∧ N 100 36 = l ∧ l ≤ 24 ∧ (∀ c, c < l → cwD M N ks c) ∧ (∀ c, c < l → rpl (M (ks + 4) c) (N 124 c)) ∧ eyD M N ks
def lnD (M N : pz_M) (ks l : Nat) : Prop := M ks 5 = l ∧ N 100 36 = l ∧ l < 24 ∧ (∀ c, c ≤ l → cwD M N ks c) ∧ (∀ c, c < l → rpl (M (ks + 4) c) (N 124 c)) ∧ M (ks + 4) l = 9 ∧ N 124 l = -1 ∧ eyD M N ks
def resD (a b : Option pz_A) (M N : pz_M) (ks l e : Nat) (t : Nat → Int) : Prop := (∃ M' N', a = some (some (pzI 0), M') ∧ b = some (some (pzI 0), N') ∧ M' 29 4 = N' 100 11 ∧ kXd ks M M' ∧ kY N N') ∨ (∃ M' N' p', a = some (some (pzI 1), M') ∧ b = some (some (pzI 1), N') ∧ txX M' p' e t ∧ txY N' p' e t ∧ rdD M' N' ks l ∧ kXd ks M M' ∧ kY N N')
theorem resD.tr {a b : Option pz_A} {M N M1 N1 : pz_M} {ks l e : Nat} {t : Nat → Int} (h : resD a b M1 N1 ks l e t) (hX : kXd ks M M1) (hY : kY N N1) : resD a b M N ks l e t := by
  rcases h with ⟨M', N', g1, g2, g3, g4, g5⟩ | ⟨M', N', p', g1, g2, g3, g4, g5, g6, g7⟩
  · exact Or.inl ⟨M', N', g1, g2, g3, hX.tr g4, hY.tr g5⟩
  · exact Or.inr ⟨M', N', p', g1, g2, g3, g4, g5, hX.tr g6, hY.tr g7⟩
theorem resD_bad {M N : pz_M} {ks l e : Nat} {t : Nat → Int} (f : Int) : resD (some (some (pzI 0), pz_wr M 29 4 f)) (some (some (pzI 0), pz_wr N 100 11 f)) M N ks l e t := Or.inl ⟨_, _, rfl, rfl, by rw [wr_same, wr_same], ((kX.rf M).wr rfl).tod, (kY.rf N).wr rfl⟩
theorem dk_end {M N : pz_M} {ks l e p : Nat} {t : Nat → Int} (hks : ks = 1 ∨ ks = 7) (hX : txX M p e t) (hN : txY N p e t) (h1 : M ks 5 = l) (h2 : N 100 36 = l) (h3 : l < 24) (h4 : ∀ c, c ≤ l → cwD M N ks c) (h5 : ∀ c, c ≤ l → rpl (M (ks + 4) c) (N 124 c)) (h6 : eyD M N ks) (w2 w3 u1 : pz_V) : resD (m_Docket_readLine_140 ks w2 w3 M) (m_Mod_readsCase_247 u1 N) M N ks (l + 1) e t := by
  rw [m_Docket_readLine_140_eq _ _ _ _ (dk_cls hks), bM_eq, h1, m_Mod_readsCase_247_eq, bM_eq, h2, ia_eq (by omega) (by omega)]
  refine Or.inr ⟨_, _, p, rfl, rfl, hX.wr (by omega) (by omega), hN.wr (by omega) (by omega), ?_, (kXd.rf ks M).wr (by omega), (kY.rf N).wr rfl⟩
  refine ⟨by rw [wr_same]; rfl, by rw [wr_same]; rfl, by omega, fun c hc => ?_, fun c hc => ?_, fun q hq => ?_⟩
  · have := h4 c (by omega)
    unfold cwD at this ⊢
    rw [wr_cell (c := ks + 1) (by omega), wr_cell (c := ks + 2) (by omega), wr_cell (c := ks + 3) (by omega), wr_cell (c := 121) (by omega), wr_cell (c := 122) (by omega), wr_cell (c := 123) (by omega)]
    exact this
  · rw [wr_cell (c := ks + 4) (by omega), wr_cell (c := 124) (by omega)]
    exact h5 c (by omega)
  · rw [wr_cell (c := ks + 5) (by omega), wr_cell (c := 125) (by omega)]
    exact h6 q hq
theorem dk_tail {M N : pz_M} {ks l e p : Nat} {t : Nat → Int} (hks : ks = 1 ∨ ks = 7) (hX : txX M p e t) (hN : txY N p e t) (hI : lnD M N ks l) (w2 w3 u1 : pz_V) : resD (m_Docket_readLine_121 ks w2 w3 M) (bI (m_Mod_here N) fun r5 M4 => if r5 = (62 : Int) then (bM (pz_wr M4 100 9 (ia (M4 100 9) 1)) fun M6 => bI (m_Mod_here M6) fun r8 M7 => bI (m_Mod_in (isb r8 48) 0 8 M7) fun r10 M9 => if r10 = 0 then (bI (m_Mod_wrongAt 1 (M9 100 9) M9) fun r12 M11 => grd (r12 = 0 ∨ r12 = 1) (some (some (pzI r12), M11))) else (grd (0 ≤ (isb r8 48) ∧ (isb r8 48) < 9) (if (M9 125 (((isb r8 48)).toNat)) = (12 : Int) then (bI (m_Mod_wrongAt 6 (M9 100 9) M9) fun r14 M13 => grd (r14 = 0 ∨ r14 = 1) (some (some (pzI r14), M13))) else (grd (0 ≤ (isb r8 48) ∧ (isb r8 48) < 9) (grd (0 ≤ (isb r8 48) ∧ (isb r8 48) < 9) (bM (pz_wr M9 125 (((isb r8 48)).toNat) (ia (M9 125 (((isb r8 48)).toNat)) 1)) fun M15 => grd (0 ≤ (M15 100 36) ∧ (M15 100 36) < 24) (bM (pz_wr M15 124 (((M15 100 36)).toNat) (isb r8 48)) fun M16 => bM (pz_wr M16 100 9 (ia (M16 100 9) 1)) fun M17 => m_Mod_readsCase_247 (pzI (isb r8 48)) M17))))))) else (m_Mod_readsCase_247 u1 M4)) M N ks (l + 1) e t := by
  have hI' := hI
  obtain ⟨a1, a2, a3, a4, a5, a6, a7, a8⟩ := hI'
  have e1 := hX.2.2
  rw [m_Docket_readLine_121_eq _ _ _ _ (dk_cls hks), Tape_peek hX, bI_some, Mod_here hN, bI_some]
  by_cases c : hr p e t = 62
  · have hpe := hr_lt (show 0 ≤ hr p e t by omega)
    have hX1 := hX.st hpe
    have hN1 := hN.st hpe
    have hh := hr_rg hX1
    rw [if_pos c, if_pos c, m_Docket_readTaker_eq _ _ (dk_cls hks), Tape_step hX, bV_some, Tape_peek hX1, bI_some, isb_eq (by omega) (by omega), Desk_isPeacock, bI_some, b01_ite, hN.1, ia_eq (x := (p : Int)) (by omega) (by omega), bM_eq, Mod_here hN1, bI_some, isb_eq (x := hr (p + 1) e t) (by omega) (by omega), Mod_in, bI_some, b01_ite]
    by_cases d : 0 ≤ hr (p + 1) e t - 48 ∧ hr (p + 1) e t - 48 ≤ 8
    · have hpe1 := hr_lt (show 0 ≤ hr (p + 1) e t by omega)
      obtain ⟨z, hz⟩ : ∃ z : Nat, hr (p + 1) e t - 48 = z := ⟨(hr (p + 1) e t - 48).toNat, by omega⟩
      rw [hz] at d
      have hey := a8 z (by omega)
      rw [hz, if_pos d, if_pos d, grd_pos (by omega), grd_pos (by omega), show ((z : Nat) : Int).toNat = z from rfl, wr_cell (c := ks + 5) (k := 29) (by omega), wr_cell (c := 125) (k := 100) (by omega)]
      by_cases f : N 125 z = 12
      · rw [if_neg (show ¬ 0 < M (ks + 5) z by omega), if_pos f, fail_X hX1, bI_some, grd_pos (by omega), bI_some, if_pos rfl, hN1.1, fail_Y, bI_some, grd_pos (by omega)]
        exact (resD_bad _).tr ((kX.rf M).wr rfl).tod ((kY.rf N).wr rfl)
      · rw [if_pos (show 0 < M (ks + 5) z by omega), if_neg f, Tape_step hX1, bV_some, grd_pos (by omega), grd_pos (by omega), bM_eq, wr_cell (k := ks + 5) (c := ks) (by omega), wr_cell (k := 29) (c := ks) (by omega), wr_cell (k := 29) (c := ks) (by omega), a1, grd_pos (by omega), bM_eq, bI_some, if_neg (show ¬ (1 : Int) = 0 by omega)]
        rw [grd_pos (by omega), grd_pos (by omega), bM_eq, wr_cell (k := 125) (c := 100) (by omega), wr_idx (i := 9) (j := 36) (by omega), a2, grd_pos (by omega), bM_eq, wr_cell (k := 124) (c := 100) (by omega), wr_cell (k := 125) (c := 100) (by omega), wr_same, ia_eq (x := (p : Int) + 1) (by omega) (by omega), bM_eq, show ((l : Nat) : Int).toNat = l from rfl, wr_cell (k := 29) (c := ks + 5) (by omega), wr_cell (k := 29) (c := ks + 5) (by omega), isb_eq (by omega) (by omega), ia_eq (x := N 125 z) (by omega) (by omega), show ((p + 1 : Nat) : Int) = (p : Int) + 1 from rfl]
        have hX2 := (((hX1.st hpe1).wr (k := ks + 5) (j := z) (x := M (ks + 5) z - 1) (by omega) (by omega)).wr (k := ks + 4) (j := l) (x := (z : Int)) (by omega) (by omega))
        have hN2 := ((hN1.wr (k := 125) (j := z) (x := N 125 z + 1) (by omega) (by omega)).wr (k := 124) (j := l) (x := (z : Int)) (by omega) (by omega)).st hpe1
        rw [show ((p + 1 : Nat) : Int) = (p : Int) + 1 from rfl] at hX2 hN2
        have kx : kXd ks M (pz_wr (pz_wr (pz_wr (pz_wr M 29 2 ((p : Int) + 1)) 29 2 ((p : Int) + 1 + 1)) (ks + 5) z (M (ks + 5) z - 1)) (ks + 4) l (z : Int)) := (((((kX.rf M).wr rfl).wr rfl).tod).wr (by omega)).wr (by omega)
        have ky : kY N (pz_wr (pz_wr (pz_wr (pz_wr N 100 9 ((p : Int) + 1)) 125 z (N 125 z + 1)) 124 l (z : Int)) 100 9 ((p : Int) + 1 + 1)) := ((((kY.rf N).wr rfl).wr rfl).wr rfl).wr rfl
        have kM : ∀ c i, pz_wr (pz_wr (pz_wr (pz_wr M 29 2 ((p : Int) + 1)) 29 2 ((p : Int) + 1 + 1)) (ks + 5) z (M (ks + 5) z - 1)) (ks + 4) l (z : Int) c i = if c = ks + 4 ∧ i = l then (z : Int) else if c = ks + 5 ∧ i = z then M (ks + 5) z - 1 else if c = 29 ∧ i = 2 then (p : Int) + 1 + 1 else M c i := by
          intro c i
          unfold pz_wr
          (repeat' split) <;> first | rfl | omega
        have kN : ∀ c i, pz_wr (pz_wr (pz_wr (pz_wr N 100 9 ((p : Int) + 1)) 125 z (N 125 z + 1)) 124 l (z : Int)) 100 9 ((p : Int) + 1 + 1) c i = if c = 124 ∧ i = l then (z : Int) else if c = 125 ∧ i = z then N 125 z + 1 else if c = 100 ∧ i = 9 then (p : Int) + 1 + 1 else N c i := by
          intro c i
          unfold pz_wr
          (repeat' split) <;> first | rfl | omega
        generalize pz_wr (pz_wr (pz_wr (pz_wr M 29 2 ((p : Int) + 1)) 29 2 ((p : Int) + 1 + 1)) (ks + 5) z (M (ks + 5) z - 1)) (ks + 4) l (z : Int) = M2 at hX2 kx kM
        generalize pz_wr (pz_wr (pz_wr (pz_wr N 100 9 ((p : Int) + 1)) 125 z (N 125 z + 1)) 124 l (z : Int)) 100 9 ((p : Int) + 1 + 1) = N2 at hN2 ky kN
        refine (dk_end hks hX2 hN2 ?_ ?_ a3 ?_ ?_ ?_ _ _ _).tr kx ky
        · rw [kM, if_neg (by omega), if_neg (by omega), if_neg (by omega)]; exact a1
        · rw [kN, if_neg (by omega), if_neg (by omega), if_neg (by omega)]; exact a2
        · intro c hc
          have := a4 c hc
          unfold cwD at this ⊢
          rw [kM, kM, kM, kN, kN, kN, if_neg (by omega), if_neg (by omega), if_neg (by omega), if_neg (by omega), if_neg (by omega), if_neg (by omega), if_neg (by omega), if_neg (by omega), if_neg (by omega), if_neg (by omega), if_neg (by omega), if_neg (by omega), if_neg (by omega), if_neg (by omega), if_neg (by omega), if_neg (by omega), if_neg (by omega), if_neg (by omega)]
          exact this
        · intro c hc
          by_cases ec : c = l
          · rw [kM, kN, if_pos (by omega), if_pos (by omega)]
            unfold rpl
            omega
          · rw [kM, kN, if_neg (by omega), if_neg (by omega), if_neg (by omega), if_neg (by omega), if_neg (by omega), if_neg (by omega)]
            exact a5 c (by omega)
        · intro q hq
          have := a8 q hq
          by_cases ec : q = z
          · rw [kM, kN, if_neg (by omega), if_pos (by omega), if_neg (by omega), if_pos (by omega)]
            omega
          · rw [kM, kN, if_neg (by omega), if_neg (by omega), if_neg (by omega), if_neg (by omega), if_neg (by omega), if_neg (by omega)]
            exact this
    · rw [if_neg d, if_neg d, fail_X hX1, bI_some, grd_pos (by omega), bI_some, if_pos rfl, hN1.1, fail_Y, bI_some, grd_pos (by omega)]
      exact (resD_bad _).tr ((kX.rf M).wr rfl).tod ((kY.rf N).wr rfl)
  · rw [if_neg c, if_neg c]
    refine dk_end hks hX hN a1 a2 a3 a4 (fun c hc => ?_) a8 _ _ _
    by_cases ec : c = l
    · rw [ec, a6, a7]; exact Or.inl ⟨rfl, rfl⟩
    · exact a5 c (by omega)
