/-! ===== a law is read: jumps that wait ===== -/
def jA : Option Nat → List (Nat × Nat)
  | none => []
  | some j => [(11, j)]
def jR : Option Nat → List (Nat × Nat)
  | none => []
  | some j => [(12, j)]
def jx (cs : Nat) : Option Nat → Int
  | none => -1
  | some j => ((cs + j : Nat) : Int)
section
variable {ks cs ms e : Nat} {t : Nat → Int}
theorem la_0 (x : Int) (N : pz_M) : m_Mod_lands x N = m_Mod_lands_0 x pzN N := by rw [m_Mod_lands_eq, m_Mod_lands_0_eq]
theorem ep_0 (N : pz_M) : m_Mod_endsPiece N = m_Mod_endsPiece_0 N := by rw [m_Mod_endsPiece_eq, m_Mod_endsPiece_0_eq]
theorem ep_end {M N : pz_M} {p o L : Nat} {W : List (Nat × Nat)} {s : List Bool} (h : PQ ks cs ms e t M N p o L W s) (hw : W.length < 260) (h10 : tpW W ≠ 10) : m_Mod_endsPiece N = some (none, N) := by
  rw [m_Mod_endsPiece_eq, top_Y h hw, bI_some, if_neg h10]
theorem lands22 {N : pz_M} {n a L k : Nat} (x : Int) (w : pz_V) (h15 : N 100 15 = ((n + 1 : Nat) : Int)) (hn : n < 259) (hmod : irm (N 109 n) 1048576 = (a : Int)) (ha : a < 260) (hdiv : idv (N 108 a) 1048576 = (k : Int)) (hk : k ≤ 12) (h14 : N 100 14 = (L : Int)) (hL : L < 260) : m_Mod_lands_22 x w N = m_Mod_lands_0 x (pzI (a : Int)) (pz_wr (pz_wr N 108 a (1048576 * (k : Int) + (L : Int))) 100 15 (n : Int)) := by
  have e1 : isb ((n + 1 : Nat) : Int) 1 = (n : Int) := by
    clear hmod hdiv
    rw [isb_eq (by omega) (by omega)]; omega
  have g1 : 0 ≤ (n : Int) ∧ (n : Int) < 260 := by clear hmod hdiv; omega
  have g2 : 0 ≤ (a : Int) ∧ (a : Int) < 260 := by clear hmod hdiv; omega
  have e2 : imu 1048576 (k : Int) = 1048576 * (k : Int) := by
    clear hmod hdiv
    exact imu_eq (by omega) (by omega)
  have e3 : ia (1048576 * (k : Int)) (L : Int) = 1048576 * (k : Int) + (L : Int) := by
    clear hmod hdiv
    exact ia_eq (by omega) (by omega)
  rw [m_Mod_lands_22_eq, h15, e1, grd_pos g1, show ((n : Nat) : Int).toNat = n from rfl, hmod, grd_pos g2, grd_pos g2, bM_eq, bM_eq, wr_cell (show (100 : Nat) ≠ 108 by decide), h15, e1, show ((a : Nat) : Int).toNat = a from rfl, hdiv, e2, h14, e3]
theorem cdj_div {M N : pz_M} {L j k : Nat} {W : List (Nat × Nat)} {ty : Nat → List Bool} {op arg : Nat → Nat} (h : cdj ks cs ms M N L W ty op arg j) (hk : op j = k) (hkj : k = 11 ∨ k = 12) (hL : ms + L < 1000) : idv (N 108 (ms + j)) 1048576 = (k : Int) := by
  obtain ⟨a1, a2, a3, a4⟩ := h
  rw [hk] at a4
  rcases a4 with ⟨a4, _⟩ | ⟨b1, b2, b3, b4⟩
  · omega
  · rcases b4 with ⟨_, c2⟩ | ⟨c1, c2, c3, c4, c5⟩
    · rw [c2]
      clear c2 a2
      rw [idv_nn (by omega) (by omega) (by omega) (by omega)]; omega
    · rw [c4]
      clear c4 c5 a2
      rw [idv_nn (by omega) (by omega) (by omega) (by omega)]; omega
/-- a jump of the top lands: the desk's patch, the reference's -/
theorem land_1 (hk : ks = 13 ∨ ks = 21) (hm : ms ≤ cs) {M N : pz_M} {p o L k j : Nat} {W : List (Nat × Nat)} (h : PQ ks cs ms e t M N p o L ((k, j) :: W) [true]) (hkj : k = 11 ∨ k = 12) (hw : W.length + 1 < 260) (hb : cs + L < 256) : ∃ M' N', m_Law_landHere ks ((cs + j : Nat) : Int) M = some (none, M') ∧ (∀ (x : Int) (w : pz_V), m_Mod_lands_22 x w N = m_Mod_lands_0 x (pzI ((ms + j : Nat) : Int)) N') ∧ PQ ks cs ms e t M' N' p o L W [true] ∧ pX ks cs M M' ∧ pY ms N N' := by
  obtain ⟨h1, h2, h3, h4, h5, h6, ty, op, arg, h7, h8, h9⟩ := h
  obtain ⟨j1, j2⟩ := h7.2.2.1 k j List.mem_cons_self hkj
  have g0 : 0 ≤ ((cs + j : Nat) : Int) ∧ ((cs + j : Nat) : Int) < 256 := by omega
  have g1 : ms + j < 260 := by omega
  have g2 : ms + L < 260 := by omega
  refine ⟨pz_wr M (ks + 5) (cs + j) ((cs + L : Nat) : Int), pz_wr (pz_wr N 108 (ms + j) (1048576 * (k : Int) + ((ms + L : Nat) : Int))) 100 15 (W.length : Int), ?_, fun x w => lands22 x w h5 (by omega) ?_ g1 (cdj_div (h7.2.2.2 j j1) j2 hkj (by omega)) (by omega) h7.2.1 g2, ⟨h1.wr (by omega) (by omega), (h2.wr (by omega) (Or.inl (by decide))).wr (by decide) (by decide), h3, by rw [wr_idx (by decide), wr_cell (by decide)]; exact h4, wr_same, wst_cg W (fun i hi => by rw [wr_cell (by decide), wr_cell (by decide)]) h6.2.2.2, ?_⟩, (pX.rf M).wr (Or.inr (Or.inr ⟨by omega, by omega⟩)), ((pY.rf N).wr (Or.inr (Or.inl ⟨rfl, by omega⟩))).wr (Or.inl ⟨rfl, by omega⟩)⟩
  · rw [m_Law_landHere_eq _ _ _ (lw_cls hk).1, if_neg (show ¬ ((cs + j : Nat) : Int) < 0 by omega), if_pos g0.2, grd_pos g0, bM_eq, h7.1, show (((cs + j : Nat) : Int)).toNat = cs + j from rfl]
  · have e109 : N 109 W.length = wv ms (k, j) := h6.1
    rw [e109]
    exact wv_mod h6.2.1 h6.2.2.1 hkj
  · obtain ⟨arg', g⟩ := CR_land (M' := pz_wr M (ks + 5) (cs + j) ((cs + L : Nat) : Int)) (N' := pz_wr (pz_wr N 108 (ms + j) (1048576 * (k : Int) + ((ms + L : Nat) : Int))) 100 15 (W.length : Int)) h7 hkj h8 (by omega) (wr_cell (by omega)) (by rw [wr_idx (by decide), wr_cell (by decide)]) (fun i => wr_cell (by omega)) (fun i => wr_at) (fun i => by rw [wr_cell (by decide), wr_at])
    exact ⟨ty, op, arg', g, h8, h9⟩
theorem land_A (hk : ks = 13 ∨ ks = 21) (hm : ms ≤ cs) {M N : pz_M} {p o L : Nat} {W : List (Nat × Nat)} {A : Option Nat} (h : PQ ks cs ms e t M N p o L (jA A ++ W) [true]) (hw : W.length + 1 < 260) (hb : cs + L < 256) : ∃ M' N', m_Law_landHere ks (jx cs A) M = some (none, M') ∧ (∀ (x : Int) (w : pz_V), ∃ w', m_Mod_lands_0 x w N = m_Mod_lands_0 x w' N') ∧ PQ ks cs ms e t M' N' p o L W [true] ∧ pX ks cs M M' ∧ pY ms N N' := by
  cases A with
  | none =>
    refine ⟨M, N, ?_, fun x w => ⟨w, rfl⟩, h, pX.rf M, pY.rf N⟩
    rw [m_Law_landHere_eq _ _ _ (lw_cls hk).1, if_pos (show jx cs none < 0 from (by decide : (-1 : Int) < 0))]
  | some j =>
    have h' : PQ ks cs ms e t M N p o L ((11, j) :: W) [true] := h
    obtain ⟨M', N', a1, a2, a3, a4, a5⟩ := land_1 hk hm h' (Or.inl rfl) hw hb
    have ht : m_Mod_waitTop N = some (some (pzI ((11 : Nat) : Int)), N) := top_Y h' (by show W.length + 1 < 260; omega)
    refine ⟨M', N', a1, fun x w => ⟨pzI ((ms + j : Nat) : Int), ?_⟩, a3, a4, a5⟩
    rw [m_Mod_lands_0_eq, ht, bI_some, if_pos (show ((11 : Nat) : Int) = 11 from rfl), a2]
theorem land_R (hk : ks = 13 ∨ ks = 21) (hm : ms ≤ cs) {M N : pz_M} {p o L : Nat} {W : List (Nat × Nat)} {R : Option Nat} (h : PQ ks cs ms e t M N p o L (jR R ++ W) [true]) (hw : W.length + 1 < 260) (hb : cs + L < 256) : ∃ M' N', m_Law_landHere ks (jx cs R) M = some (none, M') ∧ (∀ (w : pz_V), ∃ w', m_Mod_lands_0 1 w N = m_Mod_lands_0 1 w' N') ∧ PQ ks cs ms e t M' N' p o L W [true] ∧ pX ks cs M M' ∧ pY ms N N' := by
  cases R with
  | none =>
    refine ⟨M, N, ?_, fun w => ⟨w, rfl⟩, h, pX.rf M, pY.rf N⟩
    rw [m_Law_landHere_eq _ _ _ (lw_cls hk).1, if_pos (show jx cs none < 0 from (by decide : (-1 : Int) < 0))]
  | some j =>
    have h' : PQ ks cs ms e t M N p o L ((12, j) :: W) [true] := h
    obtain ⟨M', N', a1, a2, a3, a4, a5⟩ := land_1 hk hm h' (Or.inr rfl) hw hb
    have ht : m_Mod_waitTop N = some (some (pzI ((12 : Nat) : Int)), N) := top_Y h' (by show W.length + 1 < 260; omega)
    refine ⟨M', N', a1, fun w => ⟨pzI ((ms + j : Nat) : Int), ?_⟩, a3, a4, a5⟩
    rw [m_Mod_lands_0_eq, ht, bI_some, if_neg (show ¬ ((12 : Nat) : Int) = 11 by decide), if_neg (show ¬ (1 : Int) = 0 by decide), ht, bI_some, if_pos (show ((12 : Nat) : Int) = 12 from rfl), a2]
theorem land_E {M N : pz_M} {p o L : Nat} {W : List (Nat × Nat)} {s : List Bool} (h : PQ ks cs ms e t M N p o L W s) (hw : W.length < 260) (h11 : tpW W ≠ 11) (x : Int) (hx : x = 0 ∨ tpW W ≠ 12) (w : pz_V) : m_Mod_lands_0 x w N = some (none, N) := by
  rw [m_Mod_lands_0_eq, top_Y h hw, bI_some, if_neg h11]
  by_cases c : x = 0
  · rw [if_pos c]
  · rw [if_neg c, top_Y h hw, bI_some, if_neg (by omega)]
/-- a jump is written, behind its sign -/
theorem pq_jump (hk : ks = 13 ∨ ks = 21) (hm : ms ≤ cs) {M N : pz_M} {p o L k : Nat} {W : List (Nat × Nat)} (h : PQ ks cs ms e t M N p o L W [true]) (hkj : k = 11 ∨ k = 12) (hp : p < e) (hw : W.length < 260) (hb : cs + L < 256) : ∃ M' N', m_Law_addStep ks (opX k) 0 M = some (some (pzI ((cs + L : Nat) : Int)), M') ∧ m_Mod_jumps k N = some (none, N') ∧ txX M' p e t ∧ PQ ks cs ms e t (pz_wr M' 29 2 ((p : Int) + 1)) N' (p + 1) o (L + 1) ((k, L) :: W) [] ∧ pX ks cs M (pz_wr M' 29 2 ((p : Int) + 1)) ∧ pY ms N N' := by
  obtain ⟨h1, h2, h3, h4, h5, h6, ty, op, arg, h7, h8, h9⟩ := h
  have c6 := h7.1
  have c14 := h7.2.1
  have hp2 := h2.2.2
  have x1 : txX (pz_wr (pz_wr (pz_wr M (ks + 4) (cs + L) (opX k)) (ks + 5) (cs + L) 0) ks 6 (((cs + L : Nat) : Int) + 1)) p e t := ((h1.wr (by omega) (by omega)).wr (by omega) (by omega)).wr (by omega) (by omega)
  refine ⟨_, pz_wr (pz_wr (pz_wr (pz_wr (pz_wr N 109 W.length (1048576 * (k : Int) + ((ms + L : Nat) : Int))) 100 15 ((W.length : Int) + 1)) 108 (ms + L) (1048576 * (k : Int) + ((0 : Nat) : Int))) 100 14 (((ms + L : Nat) : Int) + 1)) 100 9 ((p : Int) + 1), add_ok hk c6 hb _ _, ?_, x1, ⟨x1.st hp, ((((h2.wr (by omega) (Or.inl (by decide))).wr (by omega) (by omega)).wr (by omega) (Or.inl (by decide))).wr (by omega) (by omega)).st hp, ?_, ?_, ?_, ?_, ?_⟩, ?_, ?_⟩
  · have n1 := notes_ok (N := pz_wr (pz_wr N 109 W.length (1048576 * (k : Int) + ((ms + L : Nat) : Int))) 100 15 ((W.length : Int) + 1)) (n := ms + L) (by rw [wr_idx (by decide), wr_cell (by decide)]; exact c14) (by omega) (o' := k) (a := 0) (by omega) (by omega)
    have n1' : m_Mod_notes (k : Int) 0 (pz_wr (pz_wr N 109 W.length (1048576 * (k : Int) + ((ms + L : Nat) : Int))) 100 15 ((W.length : Int) + 1)) = some (none, pz_wr (pz_wr (pz_wr (pz_wr N 109 W.length (1048576 * (k : Int) + ((ms + L : Nat) : Int))) 100 15 ((W.length : Int) + 1)) 108 (ms + L) (1048576 * (k : Int) + ((0 : Nat) : Int))) 100 14 (((ms + L : Nat) : Int) + 1)) := n1
    rw [m_Mod_jumps_eq, h5, grd_pos (by omega), bM_eq, bM_eq, wr_cell (show (100 : Nat) ≠ 109 by decide), h5, ia_eq (x := (W.length : Int)) (by omega) (by omega), imu_eq (by omega) (by omega), c14, ia_eq (x := 1048576 * (k : Int)) (by omega) (by omega), show ((W.length : Nat) : Int).toNat = W.length from rfl, n1', bV_some, bM_eq, wr_idx (show 9 ≠ 14 by decide), wr_cell (show (100 : Nat) ≠ 108 by decide), wr_idx (show 9 ≠ 15 by decide), wr_cell (show (100 : Nat) ≠ 109 by decide), step_Y h2]
  · exact h3
  · rw [wr_idx (by decide), wr_idx (by decide), wr_cell (by decide), wr_idx (by decide), wr_cell (by decide)]; exact h4
  · rw [wr_idx (by decide), wr_idx (by decide), wr_cell (by decide), wr_same]; rfl
  · refine ⟨?_, by show k ≤ 14; omega, by show ms + L < 1000; omega, wst_cg W (fun i hi => ?_) h6⟩
    · rw [wr_cell (by decide), wr_cell (by decide), wr_cell (by decide), wr_cell (by decide), wr_same]
      unfold wv
      rw [if_pos hkj]
    · rw [wr_cell (by decide), wr_cell (by decide), wr_cell (by decide), wr_cell (by decide), wr_idx (by omega)]
  · have hW : ∀ k' j', (k' = 11 ∨ k' = 12) → ((k', j') ∈ (k, L) :: W ↔ (k', j') ∈ W ∨ ((k = 11 ∨ k = 12) ∧ k' = k ∧ j' = L)) := by
      intro k' j' z
      constructor
      · intro q
        rcases List.mem_cons.mp q with q | q
        · exact Or.inr ⟨hkj, (Prod.mk.inj q).1, (Prod.mk.inj q).2⟩
        · exact Or.inl q
      · intro q
        rcases q with q | ⟨_, q1, q2⟩
        · exact List.mem_cons_of_mem _ q
        · rw [q1, q2]; exact List.mem_cons_self
    obtain ⟨ty', op', arg', g1, g2, g3⟩ := CR_ext (o := k) (a := 0) (cur' := []) (M' := pz_wr (pz_wr (pz_wr (pz_wr M (ks + 4) (cs + L) (opX k)) (ks + 5) (cs + L) 0) ks 6 (((cs + L : Nat) : Int) + 1)) 29 2 ((p : Int) + 1)) (N' := pz_wr (pz_wr (pz_wr (pz_wr (pz_wr N 109 W.length (1048576 * (k : Int) + ((ms + L : Nat) : Int))) 100 15 ((W.length : Int) + 1)) 108 (ms + L) (1048576 * (k : Int) + ((0 : Nat) : Int))) 100 14 (((ms + L : Nat) : Int) + 1)) 100 9 ((p : Int) + 1)) (W' := (k, L) :: W) h7 h8 (by decide) (by rw [wr_cell (by omega), wr_same]; omega) (by rw [wr_idx (by decide), wr_same]; omega) (by rw [wr_cell (by omega), wr_cell (by omega), wr_cell (by omega), wr_same]) (by omega) (fun j hj => by rw [wr_cell (by omega), wr_cell (by omega), wr_cell (by omega), wr_idx (by omega), wr_cell (by omega), wr_cell (by omega), wr_idx (by omega), wr_cell (by omega)]; exact ⟨rfl, rfl⟩) (fun j hj => by rw [wr_cell (by decide), wr_cell (by decide), wr_idx (by omega), wr_cell (by decide), wr_cell (by decide)]) hW (Or.inr ⟨hkj, rfl, rfl, by rw [wr_cell (by decide), wr_cell (by decide), wr_same]; omega⟩)
    exact ⟨ty', op', arg', g1, g2, by rw [g3]; exact h9⟩
  · exact (((((pX.rf M).wr (Or.inr (Or.inr ⟨by omega, by omega⟩))).wr (Or.inr (Or.inr ⟨by omega, by omega⟩))).wr (Or.inr (Or.inl ⟨rfl, rfl⟩)))).wr (Or.inl ⟨rfl, by omega⟩)
  · exact (((((pY.rf N).wr (Or.inr (Or.inr rfl))).wr (Or.inl ⟨rfl, by omega⟩)).wr (Or.inr (Or.inl ⟨rfl, by omega⟩))).wr (Or.inl ⟨rfl, by omega⟩)).wr (Or.inl ⟨rfl, by omega⟩)
end
def TstP (ks cs ms e : Nat) (t : Nat → Int) (p : Nat) : Prop := ∀ (d o L : Nat) (M N : pz_M) (W : List (Nat × Nat)), PQ ks cs ms e t M N p o L W [] → 10 ≤ tpW W → cs + L + wl W ≤ p → W.length ≤ p → 1 ≤ o → o ≤ 6 → 23 ≤ d + 2 * o → (bad ks cs ms M N (m_LawReader_readTest d ks o M) (m_Mod_readsCondition_40 N) ∨ ∃ (M' N' : pz_M) (p' L' : Nat), m_LawReader_readTest d ks o M = some (some (pzI 1), M') ∧ m_Mod_readsCondition_40 N = bV (m_Mod_endsPiece N') (fun N2 => m_Mod_readsCondition_92 N2) ∧ PQ ks cs ms e t M' N' p' o L' W [true] ∧ cs + L' + wl W ≤ p' ∧ p < p' ∧ pX ks cs M M' ∧ pY ms N N')
def ChoP (ks cs ms e : Nat) (t : Nat → Int) (p : Nat) : Prop := ∀ (d o L i : Nat) (M N : pz_M) (W : List (Nat × Nat)) (A R : Option Nat), PQ ks cs ms e t M N p o L (jA A ++ (jR R ++ (13, 0) :: W)) [] → cs + L + wl (jA A ++ (jR R ++ (13, 0) :: W)) ≤ p → (jA A ++ (jR R ++ (13, 0) :: W)).length ≤ p → i ≤ p → 1 ≤ o → o ≤ 6 → 24 ≤ d + 2 * o → (bad ks cs ms M N (m_LawReader_readChoice_8 d ks o (jx cs A) (jx cs R) i M) (m_Mod_readsCondition_40 N) ∨ ∃ (M' N2 N' : pz_M) (p' L' : Nat), m_LawReader_readChoice_8 d ks o (jx cs A) (jx cs R) i M = some (some (pzI 1), M') ∧ m_Mod_readsCondition_40 N = m_Mod_readsCondition_92 N2 ∧ txY N2 p' e t ∧ hr p' e t ≠ 38 ∧ hr p' e t ≠ 124 ∧ m_Mod_lands 1 N2 = some (none, N') ∧ PQ ks cs ms e t M' N' p' o L' ((13, 0) :: W) [true] ∧ cs + L' + wl ((13, 0) :: W) ≤ p' ∧ p < p' ∧ pX ks cs M M' ∧ pY ms N N' ∧ pY ms N N2)
