/-! ===== a law is read: a whole sum ===== -/
section
variable {ks cs ms e : Nat} {t : Nat → Int}
theorem wl_T {r : Nat} (hr2 : r ≤ 2) (X : List (Nat × Nat)) : wl (pdT (some r) ++ X) = wl X + 1 := by
  show wl X + (if 4 + r = 11 ∨ 4 + r = 12 then 0 else 1) = _
  rw [if_neg (by omega)]
theorem wl_Q {r : Nat} (hr1 : r ≤ 1) (X : List (Nat × Nat)) : wl (pdQ (some r) ++ X) = wl X + 1 := by
  show wl X + (if 2 + r = 11 ∨ 2 + r = 12 then 0 else 1) = _
  rw [if_neg (by omega)]
theorem close_T (hk : ks = 13 ∨ ks = 21) (hm : ms ≤ cs) (he : e ≤ 240) {M N : pz_M} {p o L d i g : Nat} {W : List (Nat × Nat)} {s : List Bool} {T : Option Nat} {x3 : Int} (hT : ∀ r, T = some r → r ≤ 2) (h : PQ ks cs ms e t M N p o L (pdT T ++ W) (false :: (pdO T ++ s))) (hc : cs + L + wl (pdT T ++ W) + g ≤ p) (hw : (pdT T ++ W).length ≤ p) (hl : s.length ≤ 20) (hd : 6 ≤ d) : ∃ M2 N2 L2, (if exO T < 0 then m_LawReader_readSum_41 d ks o (pzI (exO T)) x3 i M else grd (4 ≤ d) (bI (m_Law_addStep ks (ia 8 (exO T)) 0 M) fun r4 M3 => m_LawReader_readSum_41 d ks o (pzI (exO T)) x3 i M3)) = m_LawReader_readSum_41 d ks o (pzI (exO T)) x3 i M2 ∧ (∀ x, m_Mod_closesSums_0 x N = m_Mod_closesSums_0 x N2) ∧ PQ ks cs ms e t M2 N2 p o L2 W (false :: s) ∧ cs + L2 + wl W + g ≤ p ∧ W.length ≤ p ∧ pX ks cs M M2 ∧ pY ms N N2 := by
  have hpe := h.1.2.2.1
  cases T with
  | none =>
    rw [if_pos (show exO none < 0 by decide)]
    exact ⟨M, N, L, rfl, fun _ => rfl, h, hc, hw, pX.rf M, pY.rf N⟩
  | some r =>
    have r2 := hT r rfl
    rw [wl_T r2] at hc
    have hwn : (pdT (some r) ++ W).length = W.length + 1 := rfl
    have h' : PQ ks cs ms e t M N p o L ((4 + r, 0) :: W) (false :: false :: s) := h
    obtain ⟨M1, N1, a1, a2, a3, a4, a5⟩ := clo_pop hk hm h' (by omega) (by omega) (by omega) (by omega) (by omega)
    have ee : ia 8 (exO (some r)) = ((4 + r : Nat) : Int) + 4 := by
      show ia 8 (r : Int) = _
      rw [ia_eq (by omega) (by omega)]; omega
    rw [if_neg (show ¬ exO (some r) < 0 from by show ¬ (r : Int) < 0; omega), grd_pos (by omega), ee, a1, bI_some]
    exact ⟨M1, N1, L + 1, rfl, fun x => a2 x (Or.inl (by omega)), a3, by omega, by omega, a4, a5⟩
theorem close_Q (hk : ks = 13 ∨ ks = 21) (hm : ms ≤ cs) (he : e ≤ 240) {M N : pz_M} {p o L d i g : Nat} {W : List (Nat × Nat)} {s : List Bool} {Q : Option Nat} {x2 : Int} (hQ : ∀ r, Q = some r → r ≤ 1) (h : PQ ks cs ms e t M N p o L (pdQ Q ++ W) (false :: (pdO Q ++ s))) (hc : cs + L + wl (pdQ Q ++ W) + g ≤ p) (hw : (pdQ Q ++ W).length ≤ p) (hl : s.length ≤ 20) (hd : 6 ≤ d) : ∃ M2 N2 L2, (if exO Q < 0 then m_LawReader_readSum_68 d ks o x2 (pzI (exO Q)) i M else grd (4 ≤ d) (bI (m_Law_addStep ks (ia 6 (exO Q)) 0 M) fun r4 M3 => m_LawReader_readSum_68 d ks o x2 (pzI (exO Q)) i M3)) = m_LawReader_readSum_68 d ks o x2 (pzI (exO Q)) i M2 ∧ m_Mod_closesSums_0 1 N = m_Mod_closesSums_0 1 N2 ∧ PQ ks cs ms e t M2 N2 p o L2 W (false :: s) ∧ cs + L2 + wl W + g ≤ p ∧ W.length ≤ p ∧ pX ks cs M M2 ∧ pY ms N N2 := by
  have hpe := h.1.2.2.1
  cases Q with
  | none =>
    rw [if_pos (show exO none < 0 by decide)]
    exact ⟨M, N, L, rfl, rfl, h, hc, hw, pX.rf M, pY.rf N⟩
  | some r =>
    have r2 := hQ r rfl
    rw [wl_Q r2] at hc
    have hwn : (pdQ (some r) ++ W).length = W.length + 1 := rfl
    have h' : PQ ks cs ms e t M N p o L ((2 + r, 0) :: W) (false :: false :: s) := h
    obtain ⟨M1, N1, a1, a2, a3, a4, a5⟩ := clo_pop hk hm h' (by omega) (by omega) (by omega) (by omega) (by omega)
    have ee : ia 6 (exO (some r)) = ((2 + r : Nat) : Int) + 4 := by
      show ia 6 (r : Int) = _
      rw [ia_eq (by omega) (by omega)]; omega
    rw [if_neg (show ¬ exO (some r) < 0 from by show ¬ (r : Int) < 0; omega), grd_pos (by omega), ee, a1, bI_some]
    exact ⟨M1, N1, L + 1, rfl, a2 1 (Or.inr (by decide)), a3, by omega, by omega, a4, a5⟩
theorem tp_Q {Q : Option Nat} {W : List (Nat × Nat)} (hQ : ∀ r, Q = some r → r ≤ 1) (hW : ¬ (2 ≤ tpW W ∧ tpW W ≤ 6)) : ¬ (4 ≤ tpW (pdQ Q ++ W) ∧ tpW (pdQ Q ++ W) ≤ 6) := by
  cases Q with
  | none => show ¬ (4 ≤ tpW W ∧ tpW W ≤ 6); omega
  | some r =>
    have := hQ r rfl
    show ¬ ((4 : Int) ≤ ((2 + r : Nat) : Int) ∧ ((2 + r : Nat) : Int) ≤ 6)
    omega
theorem pd_len (T Q : Option Nat) (W : List (Nat × Nat)) : (pdT T ++ (pdQ Q ++ W)).length ≤ W.length + 2 ∧ (pdQ Q ++ W).length ≤ W.length + 1 ∧ (pdO T ++ (pdO Q ++ ([] : List Bool))).length ≤ 2 := by
  cases T <;> cases Q <;> refine ⟨?_, ?_, ?_⟩ <;> simp [pdT, pdQ, pdO]
theorem pd_s (T Q : Option Nat) (s : List Bool) : (pdO T ++ (pdO Q ++ s)).length ≤ s.length + 2 ∧ (pdO Q ++ s).length ≤ s.length + 1 := by
  cases T <;> cases Q <;> refine ⟨?_, ?_⟩ <;> simp [pdO]
theorem pd_P (T Q : Option Nat) (hT : ∀ r, T = some r → r ≤ 2) (hQ : ∀ r, Q = some r → r ≤ 1) : ∀ x, x ∈ pdT T ++ pdQ Q → x.1 ≤ 6 := by
  intro x hx
  rcases List.mem_append.mp hx with q | q
  · cases T with
    | none => cases q
    | some r =>
      have := hT r rfl
      rcases List.mem_cons.mp q with z | z
      · subst z; show 4 + r ≤ 6; omega
      · cases z
  · cases Q with
    | none => cases q
    | some r =>
      have := hQ r rfl
      rcases List.mem_cons.mp q with z | z
      · subst z; show 2 + r ≤ 6; omega
      · cases z
theorem sum_step (hk : ks = 13 ∨ ks = 21) (hm : ms ≤ cs) (he : e ≤ 240) {m : Nat} (hF : ∀ p, e - p < m → FacP ks cs ms e t p) : ∀ n p, e - p ≤ n → e - p < m → SumP ks cs ms e t p := by
  intro n
  induction n with
  | zero =>
    intro p hn hpm d o L base i g M N W s T Q w hT hQ h htp hc hw hi hl ho hd hb
    have hpe := h.1.2.2.1
    have hp : p = e := by omega
    have hps := pd_s T Q s
    have f := hF p hpm (d - 1) o L base g M N _ _ w h hc hw (by omega) ho (by omega) (by simp only [List.length_append]; omega)
    rcases f with ⟨M1, N1, a1, a2, a3, a4, a5, a6⟩ | ⟨M1, N1, p1, L1, w1, a1, a2, a3, a4, a5, a6, a7⟩
    · left
      rw [m_LawReader_readSum_8_eq _ _ _ _ _ _ _ (lw_cls hk).1, if_pos (show (i : Int) < 256 by omega), grd_pos (by omega), a1, bI_some, if_pos rfl]
      exact ⟨M1, N1, rfl, a2, a3, a4, a5, a6⟩
    · have := a3.1.2.2.1
      omega
  | succ n ih =>
    intro p hn hpm d o L base i g M N W s T Q w hT hQ h htp hc hw hi hl ho hd hb
    have hpe := h.1.2.2.1
    have hps := pd_s T Q s
    have f := hF p hpm (d - 1) o L base g M N _ _ w h hc hw (by omega) ho (by omega) (by simp only [List.length_append]; omega)
    rw [m_LawReader_readSum_8_eq _ _ _ _ _ _ _ (lw_cls hk).1, if_pos (show (i : Int) < 256 by omega), grd_pos (by omega)]
    rcases f with ⟨M1, N1, a1, a2, a3, a4, a5, a6⟩ | ⟨M1, N1, p1, L1, w1, a1, a2, a3, a4, a5, a6, a7⟩
    · left
      rw [a1, bI_some, if_pos rfl]
      exact ⟨M1, N1, rfl, a2, a3, a4, a5, a6⟩
    · have hpe1 := a3.1.2.2.1
      obtain ⟨M2, N2, L2, b1, b2, b3, b4, b5, b6, b7⟩ := close_T (d := d) (i := i) (x3 := exO Q) hk hm he hT a3 a4 (by omega) (by omega) (by omega)
      have x2 := b3.1
      have y1 := a3.2.1
      rw [a1, bI_some, if_neg (show ¬ (1 : Int) = 0 by decide), b1, a2, m_LawReader_readSum_41_eq _ _ _ _ _ _ _ (lw_cls hk).1, grd_pos (by omega), in_84 x2, bI_some]
      have hlQ := pd_len T Q W
      rcases sg_cases (hr p1 e t) N1 with ⟨r, r2, h0, q1, q2⟩ | ⟨r, r1, h0, q0, q1, q2⟩ | ⟨q0, q1, q2, q3⟩
      · have hpl := hr_lt h0
        obtain ⟨c1, c2, c3, c4⟩ := pq_push hk b3 hpl (by omega) (k := 4 + r) ⟨by omega, by omega⟩ (by omega) (by omega) o N2 (fun _ _ _ => rfl) b3.2.2.2.1
        have cl : m_Mod_closesSums 0 N1 = some (none, N2) := by rw [clo_0, b2, clo_end b3 (by omega) 0 (tp_Q hQ htp) (Or.inl rfl)]
        have kk := c1 (fun M4 => bI (m_Mod_readsFactor M4) fun r6 M5 => if r6 = 0 then some (some (pzI 0), M5) else m_Mod_readsSum_14 (base : Int) (pzI ((4 + r : Nat) : Int)) M5)
        have eK : m_Mod_readsSum_14 base w1 N1 = refF base (pzI ((4 + r : Nat) : Int)) (pz_wr (pz_wr (pz_wr N2 109 (pdQ Q ++ W).length (1048576 * ((4 + r : Nat) : Int))) 100 15 (((pdQ Q ++ W).length : Int) + 1)) 100 9 ((p1 : Int) + 1)) := by
          rw [m_Mod_readsSum_14_eq, Mod_here y1, bI_some, q2, bI_some, if_neg (show ¬ ((4 + r : Nat) : Int) = -1 by omega), if_neg (show ¬ ((4 + r : Nat) : Int) < 4 by omega), m_Mod_readsSum_38_eq, cl, bV_some]
          exact kk
        rw [q1, if_neg (show ¬ (r : Int) < 0 by omega), m_LawReader_readSum_83_eq _ _ _ _ _ _ _ (lw_cls hk).1, grd_pos (by omega), Tape_step x2, bV_some, ia_eq (x := (i : Int)) (by omega) (by omega), eK]
        have hwl := wl_T r2 (pdQ Q ++ W)
        have hwn : (pdT (some r) ++ (pdQ Q ++ W)).length = (pdQ Q ++ W).length + 1 := rfl
        have st := ih (p1 + 1) (by omega) (by omega) d o L2 base (i + 1) g _ _ W s (some r) Q (pzI ((4 + r : Nat) : Int)) (fun r' z => by cases z; exact r2) hQ c2 htp (by rw [hwl]; omega) (by rw [hwn]; omega) (by omega) hl ho hd hb
        rcases st with z | ⟨M', N3, N', p', L', w', P, z1, z2, z3, z4, z5, z6, z7, z8, z9, z10, z11, z12, z13, z14, z15⟩
        · exact Or.inl (bad_tr ((a6.tr b6).tr c3) ((a7.tr b7).tr c4) z)
        · exact Or.inr ⟨M', N3, N', p', L', w', P, z1, z2, z3, z4, z5, z6, z7, z8, z9, z10, z11, by omega, ((a6.tr b6).tr c3).tr z13, ((a7.tr b7).tr c4).tr z14, ((a7.tr b7).tr c4).tr z15⟩
      · have hpl := hr_lt h0
        obtain ⟨M3, N3, L3, d1, d2, d3, d4, d5, d6, d7⟩ := close_Q (d := d) (i := i) (x2 := -1) hk hm he hQ b3 b4 (by omega) (by omega) (by omega)
        have x3 := d3.1
        obtain ⟨c1, c2, c3, c4⟩ := pq_push hk d3 hpl (by omega) (k := 2 + r) ⟨by omega, by omega⟩ (by omega) (by omega) o N3 (fun _ _ _ => rfl) d3.2.2.2.1
        have cl : m_Mod_closesSums 1 N1 = some (none, N3) := by rw [clo_0, b2, d2, clo_end d3 (by omega) 1 (by omega) (Or.inr ⟨by omega, by omega⟩)]
        have kk := c1 (fun M4 => bI (m_Mod_readsFactor M4) fun r6 M5 => if r6 = 0 then some (some (pzI 0), M5) else m_Mod_readsSum_14 (base : Int) (pzI ((2 + r : Nat) : Int)) M5)
        have eK : m_Mod_readsSum_14 base w1 N1 = refF base (pzI ((2 + r : Nat) : Int)) (pz_wr (pz_wr (pz_wr N3 109 W.length (1048576 * ((2 + r : Nat) : Int))) 100 15 ((W.length : Int) + 1)) 100 9 ((p1 : Int) + 1)) := by
          rw [m_Mod_readsSum_14_eq, Mod_here y1, bI_some, q2, bI_some, if_neg (show ¬ ((2 + r : Nat) : Int) = -1 by omega), if_pos (show ((2 + r : Nat) : Int) < 4 by omega), m_Mod_readsSum_38_eq, cl, bV_some]
          exact kk
        rw [q0, if_pos (show (-1 : Int) < 0 by decide), d1, m_LawReader_readSum_68_eq _ _ _ _ _ _ _ (lw_cls hk).1, grd_pos (by omega), in_85 x3, bI_some, q1, if_neg (show ¬ (r : Int) < 0 by omega), m_LawReader_readSum_83_eq _ _ _ _ _ _ _ (lw_cls hk).1, grd_pos (by omega), Tape_step x3, bV_some, ia_eq (x := (i : Int)) (by omega) (by omega), eK]
        have hwl := wl_Q r1 W
        have hwn : (pdQ (some r) ++ W).length = W.length + 1 := rfl
        have st := ih (p1 + 1) (by omega) (by omega) d o L3 base (i + 1) g _ _ W s none (some r) (pzI ((2 + r : Nat) : Int)) (fun r' z => by cases z) (fun r' z => by cases z; exact r1) c2 htp (by show cs + L3 + wl (pdQ (some r) ++ W) + g ≤ p1 + 1; rw [hwl]; omega) (by show (pdQ (some r) ++ W).length ≤ p1 + 1; rw [hwn]; omega) (by omega) hl ho hd hb
        rcases st with z | ⟨M', N4, N', p', L', w', P, z1, z2, z3, z4, z5, z6, z7, z8, z9, z10, z11, z12, z13, z14, z15⟩
        · exact Or.inl (bad_tr (((a6.tr b6).tr d6).tr c3) (((a7.tr b7).tr d7).tr c4) z)
        · exact Or.inr ⟨M', N4, N', p', L', w', P, z1, z2, z3, z4, z5, z6, z7, z8, z9, z10, z11, by omega, (((a6.tr b6).tr d6).tr c3).tr z13, (((a7.tr b7).tr d7).tr c4).tr z14, (((a7.tr b7).tr d7).tr c4).tr z15⟩
      · obtain ⟨M3, N3, L3, d1, d2, d3, d4, d5, d6, d7⟩ := close_Q (d := d) (i := i) (x2 := -1) hk hm he hQ b3 b4 (by omega) (by omega) (by omega)
        have x3 := d3.1
        have cl : m_Mod_closesSums 1 N1 = some (none, N3) := by rw [clo_0, b2, d2, clo_end d3 (by omega) 1 (by omega) (Or.inr ⟨by omega, by omega⟩)]
        rw [q1, if_pos (show (-1 : Int) < 0 by decide), d1, m_LawReader_readSum_68_eq _ _ _ _ _ _ _ (lw_cls hk).1, grd_pos (by omega), in_85 x3, bI_some, q2, if_pos (show (-1 : Int) < 0 by decide)]
        right
        have hP := pd_P T Q hT hQ
        refine ⟨M3, N1, N3, p1, L3, w1, pdT T ++ pdQ Q, rfl, rfl, y1, q0, ?_, ?_, hP, ?_, cl, d3, d4, a5, (a6.tr b6).tr d6, (a7.tr b7).tr d7, a7⟩
        · rw [List.append_assoc]; exact a3.2.2.2.2.1
        · rw [List.append_assoc]; exact a3.2.2.2.2.2.1
        · rw [List.append_assoc]; omega
theorem sums (hk : ks = 13 ∨ ks = 21) (hm : ms ≤ cs) (he : e ≤ 240) : ∀ m p, e - p < m → FacP ks cs ms e t p ∧ SumP ks cs ms e t p := by
  intro m
  induction m with
  | zero => intro p hp; omega
  | succ m ih =>
    intro p hp
    have hF : ∀ p, e - p < m + 1 → FacP ks cs ms e t p := fac_step hk hm he (fun p hp => (ih p hp).2)
    exact ⟨hF p hp, sum_step hk hm he hF (e - p) p (Nat.le_refl _) hp⟩
/-- a sum, from its first byte to its end -/
theorem top_sum (hk : ks = 13 ∨ ks = 21) (hm : ms ≤ cs) (he : e ≤ 240) {d o L p g : Nat} {M N : pz_M} {W : List (Nat × Nat)} {s : List Bool} (h : PQ ks cs ms e t M N p o L W s) (htp : ¬ (2 ≤ tpW W ∧ tpW W ≤ 6)) (hc : cs + L + wl W + g ≤ p) (hw : W.length ≤ p) (hl : s.length ≤ 2 * o + 1) (ho : o ≤ 6) (hd : 22 ≤ d + 2 * o) : bad ks cs ms M N (m_LawReader_readSum d ks o M) (m_Mod_readsSum N) ∨ ∃ (M' N' : pz_M) (p' L' : Nat), m_LawReader_readSum d ks o M = some (some (pzI 1), M') ∧ m_Mod_readsSum N = some (some (pzI 1), N') ∧ PQ ks cs ms e t M' N' p' o L' W (false :: s) ∧ cs + L' + wl W + g ≤ p' ∧ p < p' ∧ pX ks cs M M' ∧ pY ms N N' := by
  have e1 : m_Mod_readsSum N = refF (W.length : Int) pzN N := by
    rw [m_Mod_readsSum_eq, h.2.2.2.2.1]
    rfl
  have e2 : m_LawReader_readSum d ks o M = m_LawReader_readSum_8 d ks o (exO none) (exO none) ((0 : Nat) : Int) M := m_LawReader_readSum_eq _ _ _ _ (lw_cls hk).1
  rw [e1, e2]
  rcases (sums hk hm he (e - p + 1) p (by omega)).2 d o L W.length 0 g M N W s none none pzN (fun r z => by cases z) (fun r z => by cases z) h htp hc hw (by omega) hl ho hd (Nat.le_refl _) with z | ⟨M', N2, N', p', L', w', P, z1, z2, z3, z4, z5, z6, z7, z8, z9, z10, z11, z12, z13, z14, z15⟩
  · exact Or.inl z
  · right
    refine ⟨M', N', p', L', z1, ?_, z10, z11, z12, z13, z14⟩
    rw [z2, K_top z3 z4 z6 z5 z8 z7, z9, bV_some]
end
