/-! ===== a law is read: both at a place of the text ===== -/
def pX (ks cs : Nat) (M M' : pz_M) : Prop := ∀ c i, ¬ (c = 29 ∧ (i = 2 ∨ i = 4)) → ¬ (c = ks ∧ i = 6) → ¬ ((c = ks + 4 ∨ c = ks + 5) ∧ cs ≤ i) → M' c i = M c i
def pY (ms : Nat) (N N' : pz_M) : Prop := ∀ c i, ¬ (c = 100 ∧ (i = 9 ∨ i = 11 ∨ i = 12 ∨ i = 13 ∨ i = 14 ∨ i = 15)) → ¬ (c = 108 ∧ ms ≤ i) → c ≠ 109 → N' c i = N c i
theorem pX.rf {ks cs : Nat} (M : pz_M) : pX ks cs M M := fun _ _ _ _ _ => rfl
theorem pY.rf {ms : Nat} (N : pz_M) : pY ms N N := fun _ _ _ _ _ => rfl
theorem pX.tr {ks cs : Nat} {M M1 M2 : pz_M} (h : pX ks cs M M1) (h2 : pX ks cs M1 M2) : pX ks cs M M2 := fun c i a b d => (h2 c i a b d).trans (h c i a b d)
theorem pY.tr {ms : Nat} {N N1 N2 : pz_M} (h : pY ms N N1) (h2 : pY ms N1 N2) : pY ms N N2 := fun c i a b d => (h2 c i a b d).trans (h c i a b d)
theorem fX.p {ks cs : Nat} {M M' : pz_M} (h : fX M M') : pX ks cs M M' := fun c i a _ _ => h c i (by omega)
theorem fY.p {ms : Nat} {N N' : pz_M} (h : fY N N') : pY ms N N' := fun c i a _ _ => h c i (by omega)
theorem pX.wr {ks cs : Nat} {M M1 : pz_M} {k j : Nat} {x : Int} (h : pX ks cs M M1) (hc : (k = 29 ∧ (j = 2 ∨ j = 4)) ∨ (k = ks ∧ j = 6) ∨ ((k = ks + 4 ∨ k = ks + 5) ∧ cs ≤ j)) : pX ks cs M (pz_wr M1 k j x) := by
  intro c i a b d
  unfold pz_wr
  rw [if_neg (fun z => by obtain ⟨z1, z2⟩ := z; subst z1; subst z2; omega)]
  exact h c i a b d
theorem pY.wr {ms : Nat} {N N1 : pz_M} {k j : Nat} {x : Int} (h : pY ms N N1) (hc : (k = 100 ∧ (j = 9 ∨ j = 11 ∨ j = 12 ∨ j = 13 ∨ j = 14 ∨ j = 15)) ∨ (k = 108 ∧ ms ≤ j) ∨ k = 109) : pY ms N (pz_wr N1 k j x) := by
  intro c i a b d
  unfold pz_wr
  rw [if_neg (fun z => by obtain ⟨z1, z2⟩ := z; subst z1; subst z2; omega)]
  exact h c i a b d
def PQ (ks cs ms e : Nat) (t : Nat → Int) (M N : pz_M) (p o L : Nat) (W : List (Nat × Nat)) (cur : List Bool) : Prop := txX M p e t ∧ txY N p e t ∧ pz_cls ks = 2 ∧ N 100 13 = o ∧ N 100 15 = (W.length : Int) ∧ wst ms N W ∧ ∃ (ty : Nat → List Bool) (op arg : Nat → Nat), CR ks cs ms M N L W ty op arg ∧ ty L = cur ∧ ty 0 = []
/-- both found the same fault -/
def bad (ks cs ms : Nat) (M N : pz_M) (a b : Option pz_A) : Prop := ∃ M' N', a = some (some (pzI 0), M') ∧ b = some (some (pzI 0), N') ∧ M' 29 4 = N' 100 11 ∧ pX ks cs M M' ∧ pY ms N N' ∧ (cs : Int) ≤ M' ks 6
theorem bad_tr {ks cs ms : Nat} {M N M1 N1 : pz_M} {a b : Option pz_A} (hX : pX ks cs M M1) (hY : pY ms N N1) (h : bad ks cs ms M1 N1 a b) : bad ks cs ms M N a b := by
  obtain ⟨M', N', h1, h2, h3, h4, h5, h6⟩ := h
  exact ⟨M', N', h1, h2, h3, hX.tr h4, hY.tr h5, h6⟩
def tpW : List (Nat × Nat) → Int
  | [] => -1
  | x :: _ => (x.1 : Int)
section
variable {ks cs ms e : Nat} {t : Nat → Int} {M N M' N' : pz_M} {p o L : Nat} {W : List (Nat × Nat)} {cur : List Bool}
theorem pq_upd (h : PQ ks cs ms e t M N p o L W cur) {p' o' : Nat} {W' : List (Nat × Nat)} (x : txX M' p' e t) (y : txY N' p' e t) (e13 : N' 100 13 = o') (e15 : N' 100 15 = (W'.length : Int)) (ew : wst ms N' W') (e6 : M' ks 6 = M ks 6) (f14 : N' 100 14 = N 100 14) (e4 : ∀ i, M' (ks + 4) i = M (ks + 4) i) (e5 : ∀ i, M' (ks + 5) i = M (ks + 5) i) (f8 : ∀ i, N' 108 i = N 108 i) (hW : ∀ k j, (k = 11 ∨ k = 12) → ((k, j) ∈ W' ↔ (k, j) ∈ W)) : PQ ks cs ms e t M' N' p' o' L W' cur := by
  obtain ⟨h1, h2, h3, h4, h5, h6, ty, op, arg, h7, h8, h9⟩ := h
  exact ⟨x, y, h3, e13, e15, ew, ty, op, arg, CR_keep h7 e6 f14 e4 e5 f8 hW, h8, h9⟩
theorem pq_step (hk : ks = 13 ∨ ks = 21) (h : PQ ks cs ms e t M N p o L W cur) (hp : p < e) : PQ ks cs ms e t (pz_wr M 29 2 ((p : Int) + 1)) (pz_wr N 100 9 ((p : Int) + 1)) (p + 1) o L W cur := by
  have h' := h
  obtain ⟨h1, h2, h3, h4, h5, h6, -⟩ := h'
  exact pq_upd h (h1.st hp) (h2.st hp) (by rw [wr_idx (by decide)]; exact h4) (by rw [wr_idx (by decide)]; exact h5) (wst_cg W (fun i hi => wr_cell (by decide)) h6) (wr_cell (by omega)) (wr_idx (by decide)) (fun i => wr_cell (by omega)) (fun i => wr_cell (by omega)) (fun i => wr_cell (by decide)) (fun _ _ _ => Iff.rfl)
theorem step_Y (h : txY N p e t) : ia (N 100 9) 1 = (p : Int) + 1 := by
  have := h.2.2
  rw [h.1]; exact ia_eq (by omega) (by omega)
theorem top_Y (h : PQ ks cs ms e t M N p o L W cur) (hw : W.length < 260) : m_Mod_waitTop N = some (some (pzI (tpW W)), N) := by
  obtain ⟨h1, h2, h3, h4, h5, h6, -⟩ := h
  rw [m_Mod_waitTop_eq, h5]
  cases W with
  | nil => rw [if_pos (show ((([] : List (Nat × Nat)).length : Nat) : Int) = 0 from rfl)]; rfl
  | cons x r =>
    have hl : (x :: r).length = r.length + 1 := rfl
    rw [if_neg (show ¬ (((x :: r).length : Nat) : Int) = 0 by omega), isb_eq (by omega) (by omega), grd_pos (by omega), show ((((x :: r).length : Nat) : Int) - 1).toNat = r.length by omega, h6.1, wv_div h6.2.1 h6.2.2.1]
    rfl
theorem add_ok {n : Nat} (hk : ks = 13 ∨ ks = 21) (h6 : M ks 6 = n) (hn : n < 256) (x a : Int) : m_Law_addStep ks x a M = some (some (pzI n), pz_wr (pz_wr (pz_wr M (ks + 4) n x) (ks + 5) n a) ks 6 ((n : Int) + 1)) := by
  rw [m_Law_addStep_eq _ _ _ _ (lw_cls hk).1, h6, if_pos (show (n : Int) < 256 by omega), grd_pos (by omega), bM_eq, wr_cell (show ks ≠ ks + 4 by omega), h6, grd_pos (by omega), bM_eq, bM_eq, wr_same, wr_cell (show ks ≠ ks + 5 by omega), wr_cell (show ks ≠ ks + 4 by omega), h6, ia_eq (by omega) (by omega), isb_eq (by omega) (by omega), show (n : Int) + 1 - 1 = n by omega, show ((n : Nat) : Int).toNat = n from rfl]
theorem notes_ok {n : Nat} (h : N 100 14 = n) (hn : n < 260) {o' a : Nat} (ho : o' ≤ 14) (ha : a < 1048576) : m_Mod_notes o' a N = some (none, pz_wr (pz_wr N 108 n (1048576 * (o' : Int) + (a : Int))) 100 14 ((n : Int) + 1)) := by
  rw [m_Mod_notes_eq, h, grd_pos (by omega), bM_eq, bM_eq, wr_cell (show (100 : Nat) ≠ 108 by decide), h, ia_eq (x := (n : Int)) (by omega) (by omega), imu_eq (by omega) (by omega), ia_eq (by omega) (by omega), show ((n : Nat) : Int).toNat = n from rfl]
/-- both write a step -/
theorem pq_emit (hk : ks = 13 ∨ ks = 21) (hm : ms ≤ cs) (h : PQ ks cs ms e t M N p o L W cur) (hb : cs + L < 256) (hl : cur.length < 32) {o' a : Nat} {cur' : List Bool} (ho : o' ≤ 10) (ha : a < 1048576) (ht : tr o' a cur cur') : ∃ M' N', m_Law_addStep ks (opX o') a M = some (some (pzI ((cs + L : Nat) : Int)), M') ∧ m_Mod_notes o' a N = some (none, N') ∧ PQ ks cs ms e t M' N' p o (L + 1) W cur' ∧ pX ks cs M M' ∧ pY ms N N' := by
  obtain ⟨h1, h2, h3, h4, h5, h6, ty, op, arg, h7, h8, h9⟩ := h
  have c6 := h7.1
  have c14 := h7.2.1
  refine ⟨_, _, add_ok hk c6 hb _ _, notes_ok c14 (by omega) (by omega) ha, ⟨((h1.wr (by omega) (by omega)).wr (by omega) (by omega)).wr (by omega) (by omega), (h2.wr (by omega) (by omega)).wr (by omega) (by omega), ?_, ?_, ?_, ?_, ?_⟩, ?_, ?_⟩
  · exact h3
  · rw [wr_idx (by decide), wr_cell (by decide)]; exact h4
  · rw [wr_idx (by decide), wr_cell (by decide)]; exact h5
  · exact wst_cg W (fun i hi => by rw [wr_cell (by decide), wr_cell (by decide)]) h6
  · obtain ⟨ty', op', arg', g1, g2, g3⟩ := CR_ext (o := o') (a := a) (cur' := cur') (M' := pz_wr (pz_wr (pz_wr M (ks + 4) (cs + L) (opX o')) (ks + 5) (cs + L) a) ks 6 (((cs + L : Nat) : Int) + 1)) (N' := pz_wr (pz_wr N 108 (ms + L) (1048576 * (o' : Int) + (a : Int))) 100 14 (((ms + L : Nat) : Int) + 1)) (W' := W) h7 h8 hl (by rw [wr_same]; omega) (by rw [wr_same]; omega) (by rw [wr_cell (by omega), wr_cell (by omega), wr_same]) ha (fun j hj => by rw [wr_cell (by omega), wr_cell (by omega), wr_idx (by omega), wr_cell (by omega), wr_idx (by omega), wr_cell (by omega)]; exact ⟨rfl, rfl⟩) (fun j hj => by rw [wr_cell (by decide), wr_idx (by omega)]) (fun k j z => ⟨Or.inl, fun q => q.elim id (fun q => by omega)⟩) (Or.inl ⟨ho, ht, by rw [wr_cell (by decide), wr_same], fun _ => by rw [wr_cell (by omega), wr_same]⟩)
    exact ⟨ty', op', arg', g1, g2, by rw [g3]; exact h9⟩
  · exact (((pX.rf M).wr (Or.inr (Or.inr ⟨by omega, by omega⟩))).wr (Or.inr (Or.inr ⟨by omega, by omega⟩))).wr (Or.inr (Or.inl ⟨rfl, rfl⟩))
  · exact ((pY.rf N).wr (Or.inr (Or.inl ⟨rfl, by omega⟩))).wr (Or.inl ⟨rfl, by omega⟩)
/-- an entry is taken off -/
theorem pq_pop (h : PQ ks cs ms e t M N p o L W cur) {k j : Nat} {W' : List (Nat × Nat)} (hW : W = (k, j) :: W') (hkj : k ≠ 11 ∧ k ≠ 12) (hw : W.length < 260) : PQ ks cs ms e t M (pz_wr N 100 15 (isb (N 100 15) 1)) p o L W' cur := by
  subst hW
  have h' := h
  obtain ⟨h1, h2, h3, h4, h5, h6, -⟩ := h'
  have hl : ((k, j) :: W').length = W'.length + 1 := rfl
  rw [h5, isb_eq (by omega) (by omega), hl]
  refine pq_upd h h1 (h2.wr (by decide) (by decide)) (by rw [wr_idx (by decide)]; exact h4) (by rw [wr_same]; omega) (wst_cg W' (fun i hi => wr_cell (by decide)) h6.2.2.2) rfl (wr_idx (by decide)) (fun _ => rfl) (fun _ => rfl) (fun i => wr_cell (by decide)) (fun k' j' z => ⟨List.mem_cons_of_mem _, fun q => ?_⟩)
  rcases List.mem_cons.mp q with q | q
  · have := (Prod.mk.inj q).1
    omega
  · exact q
/-- an entry is put on, behind a sign -/
theorem pq_push (hk : ks = 13 ∨ ks = 21) (h : PQ ks cs ms e t M N p o L W cur) (hp : p < e) (hw : W.length < 260) {k : Nat} (hkj : k ≠ 11 ∧ k ≠ 12) (hk14 : k ≤ 14) (hms : ms < 1000) (o' : Nat) (N1 : pz_M) (hN1 : ∀ c i, ¬ (c = 100 ∧ i = 13) → N1 c i = N c i) (hN13 : N1 100 13 = o') : (∀ K : pz_M → Option pz_A, (grd (0 ≤ (N1 100 15) ∧ (N1 100 15) < 260) (bM (pz_wr N1 109 (((N1 100 15)).toNat) (imu 1048576 (k : Int))) fun M2 => bM (pz_wr M2 100 15 (ia (M2 100 15) 1)) fun M3 => bM (pz_wr M3 100 9 (ia (M3 100 9) 1)) fun M4 => K M4)) = K (pz_wr (pz_wr (pz_wr N1 109 W.length (1048576 * (k : Int))) 100 15 ((W.length : Int) + 1)) 100 9 ((p : Int) + 1))) ∧ PQ ks cs ms e t (pz_wr M 29 2 ((p : Int) + 1)) (pz_wr (pz_wr (pz_wr N1 109 W.length (1048576 * (k : Int))) 100 15 ((W.length : Int) + 1)) 100 9 ((p : Int) + 1)) (p + 1) o' L ((k, 0) :: W) cur ∧ pX ks cs M (pz_wr M 29 2 ((p : Int) + 1)) ∧ pY ms N (pz_wr (pz_wr (pz_wr N1 109 W.length (1048576 * (k : Int))) 100 15 ((W.length : Int) + 1)) 100 9 ((p : Int) + 1)) := by
  have h' := h
  obtain ⟨h1, h2, h3, h4, h5, h6, -⟩ := h'
  have e15 : N1 100 15 = (W.length : Int) := by rw [hN1 100 15 (by omega)]; exact h5
  have e9 : N1 100 9 = (p : Int) := by rw [hN1 100 9 (by omega)]; exact h2.1
  have hp2 := h2.2.2
  have y1 : txY N1 p e t := by
    obtain ⟨a1, a2, a3, a4, a5⟩ := h2
    refine ⟨e9, by rw [hN1 100 10 (by omega)]; exact a2, a3, a4, fun i hi => ?_⟩
    rw [hN1 107 i (by omega)]; exact a5 i hi
  refine ⟨?_, ?_, (pX.rf M).wr (Or.inl ⟨rfl, by omega⟩), ?_⟩
  · intro K
    rw [e15, grd_pos (by omega), bM_eq, bM_eq, wr_cell (show (100 : Nat) ≠ 109 by decide), e15, ia_eq (x := (W.length : Int)) (by omega) (by omega), bM_eq, wr_idx (show 9 ≠ 15 by decide), wr_cell (show (100 : Nat) ≠ 109 by decide), e9, ia_eq (x := (p : Int)) (by omega) (by omega), imu_eq (by omega) (by omega)]
    rfl
  · refine pq_upd h (h1.st hp) (((y1.wr (by decide) (Or.inl (by decide))).wr (by decide) (by decide)).st hp) ?_ ?_ ?_ (wr_cell (by omega)) ?_ (fun i => wr_cell (by omega)) (fun i => wr_cell (by omega)) (fun i => ?_) (fun k' j' z => ⟨fun q => ?_, List.mem_cons_of_mem _⟩)
    · rw [wr_idx (by decide), wr_idx (by decide), wr_cell (by decide)]; exact hN13
    · rw [wr_idx (by decide), wr_same]; rfl
    · refine ⟨?_, hk14, by show ms + 0 < 1000; omega, wst_cg W (fun i hi => ?_) h6⟩
      · rw [wr_cell (by decide), wr_cell (by decide), wr_same]
        unfold wv
        rw [if_neg (by show ¬ (k = 11 ∨ k = 12); omega)]
        omega
      · rw [wr_cell (by decide), wr_cell (by decide), wr_idx (by omega)]
        exact hN1 109 i (by omega)
    · rw [wr_idx (by decide), wr_idx (by decide), wr_cell (by decide)]; exact hN1 100 14 (by omega)
    · rw [wr_cell (by decide), wr_cell (by decide), wr_cell (by decide)]; exact hN1 108 i (by omega)
    · rcases List.mem_cons.mp q with q | q
      · have := (Prod.mk.inj q).1
        omega
      · exact q
  · have yy : pY ms N N1 := fun c i a b d => hN1 c i (by omega)
    exact (((yy.wr (Or.inr (Or.inr rfl))).wr (Or.inl ⟨rfl, by omega⟩)).wr (Or.inl ⟨rfl, by omega⟩))
theorem pq_open (h : PQ ks cs ms e t M N p o L W cur) (o' : Nat) : PQ ks cs ms e t M (pz_wr N 100 13 (o' : Int)) p o' L W cur := by
  have h' := h
  obtain ⟨h1, h2, h3, h4, h5, h6, -⟩ := h'
  exact pq_upd h h1 (h2.wr (by decide) (by decide)) wr_same (by rw [wr_idx (by decide)]; exact h5) (wst_cg W (fun i hi => wr_cell (by decide)) h6) rfl (wr_idx (by decide)) (fun _ => rfl) (fun _ => rfl) (fun i => wr_cell (by decide)) (fun _ _ _ => Iff.rfl)
theorem pq_f (hk : ks = 13 ∨ ks = 21) (h : PQ ks cs ms e t M N p o L W cur) {p' : Nat} (x : txX M' p' e t) (y : txY N' p' e t) (fx : fX M M') (fy : fY N N') : PQ ks cs ms e t M' N' p' o L W cur := by
  have h' := h
  obtain ⟨h1, h2, h3, h4, h5, h6, -⟩ := h'
  exact pq_upd h x y (by rw [fy 100 13 (by omega)]; exact h4) (by rw [fy 100 15 (by omega)]; exact h5) (wst_cg W (fun i hi => fy _ _ (by omega)) h6) (fx _ _ (by omega)) (fy _ _ (by omega)) (fun i => fx _ _ (by omega)) (fun i => fx _ _ (by omega)) (fun i => fy _ _ (by omega)) (fun _ _ _ => Iff.rfl)
theorem wr_comm {N : pz_M} {a b c d : Nat} {x y : Int} (h : a ≠ c ∨ b ≠ d) : pz_wr (pz_wr N a b x) c d y = pz_wr (pz_wr N c d y) a b x := by
  funext u v
  unfold pz_wr
  by_cases h1 : u = c ∧ v = d
  · by_cases h2 : u = a ∧ v = b
    · omega
    · rw [if_pos h1, if_neg h2, if_pos h1]
  · rw [if_neg h1]
    by_cases h2 : u = a ∧ v = b
    · rw [if_pos h2, if_pos h2]
    · rw [if_neg h2, if_neg h2, if_neg h1]
/-- a bracket or a ! opens -/
theorem opens_ok (hk : ks = 13 ∨ ks = 21) (h : PQ ks cs ms e t M N p o L W cur) (hp : p < e) (hw : W.length < 260) {k : Nat} (hkj : k ≠ 11 ∧ k ≠ 12) (hk14 : k ≤ 14) (hms : ms < 1000) (ho : o < 6) : ∃ N', m_Mod_opens k N = some (some (pzI 1), N') ∧ PQ ks cs ms e t (pz_wr M 29 2 ((p : Int) + 1)) N' (p + 1) (o + 1) L ((k, 0) :: W) cur ∧ pX ks cs M (pz_wr M 29 2 ((p : Int) + 1)) ∧ pY ms N N' := by
  have h13 : N 100 13 = (o : Int) := h.2.2.2.1
  obtain ⟨a1, a2, a3, a4⟩ := pq_push hk h hp hw hkj hk14 hms (o + 1) (pz_wr N 100 13 ((o : Int) + 1)) (fun c i z => by unfold pz_wr; rw [if_neg (by omega)]) (by rw [wr_same]; rfl)
  refine ⟨_, ?_, a2, a3, a4⟩
  rw [m_Mod_opens_eq, h13, if_neg (show ¬ (o : Int) = 6 by omega), bM_eq, ia_eq (x := (o : Int)) (by omega) (by omega)]
  exact a1 (fun M6 => some (some (pzI 1), M6))
theorem opens_no (h : PQ ks cs ms e t M N p o L W cur) (ho : o = 6) (k : Int) : m_Mod_opens k N = some (some (pzI 0), pz_wr N 100 11 (isb (imu (-1000) 5) p)) := by
  rw [m_Mod_opens_eq, h.2.2.2.1, if_pos (show (o : Int) = 6 by omega), fail_Y, bI_some, grd_pos (by omega), h.2.1.1]
theorem pq_6 (h : PQ ks cs ms e t M N p o L W cur) : M ks 6 = ((cs + L : Nat) : Int) := by
  obtain ⟨_, _, _, q, _⟩ := h.2.2.2.2.2.2
  exact q.1
theorem bad_at (hk : ks = 13 ∨ ks = 21) (h : PQ ks cs ms e t M N p o L W cur) (f : Int) {a b : Option pz_A} (ha : a = some (some (pzI 0), pz_wr M 29 4 f)) (hb : b = some (some (pzI 0), pz_wr N 100 11 f)) : bad ks cs ms M N a b := ⟨_, _, ha, hb, by rw [wr_same, wr_same], (pX.rf M).wr (Or.inl ⟨rfl, by omega⟩), (pY.rf N).wr (Or.inl ⟨rfl, by omega⟩), by rw [wr_cell (by omega), pq_6 h]; omega⟩
end
