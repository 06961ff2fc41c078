/-! ===== picked up: stretches grow ===== -/
def sl (l d h : Nat) : Nat := (l * 2 + d) * 11 + h
theorem sl_inj {l d h l' d' h' : Nat} (h1 : d < 2) (h2 : h < 11) (h3 : d' < 2) (h4 : h' < 11) (e : sl l d h = sl l' d' h') : l = l' ∧ d = d' ∧ h = h' := by
  unfold sl at e
  omega
theorem slot_ok {l d h : Nat} (hl : l < 11) (hd : d < 2) (hh : h < 11) (M : pz_M) : m_Path_slot l d h M = some (some (pzI ((sl l d h : Nat) : Int)), M) := by
  have e : (((l : Int) * 2 + (d : Int)) * 11 + (h : Int)) = ((sl l d h : Nat) : Int) := by unfold sl; omega
  rw [m_Path_slot_eq, imu_eq (x := (l : Int)) (by omega) (by omega), ia_eq (x := (l : Int) * 2) (by omega) (by omega), imu_eq (x := (l : Int) * 2 + (d : Int)) (by omega) (by omega), ia_eq (x := ((l : Int) * 2 + (d : Int)) * 11) (by omega) (by omega), e]
theorem sl_lt {l d h : Nat} (hl : l < 11) (hd : d < 2) (hh : h < 11) : sl l d h < 242 := by unfold sl; omega
theorem c45 {c : Nat} (h : c = 45 ∨ c = 46) : pz_cls c = 20 ∧ pz_len c = 242 := by rcases h with rfl | rfl <;> decide
section
variable {W D : Nat → Int} {g : Nat → Nat} {s n : Nat} {w dl : Nat → Int} {f : Int}
/-- what a table of so many points says -/
def TD1 (W D : Nat → Int) (g : Nat → Nat) (s n P : Nat) (T : Nat → Int) : Prop := ∀ l d h, l < 11 → d < 2 → h < 11 → T (sl l d h) < 1000000 → ∃ b, vldP s (n + 1) b ∧ b.length + 1 = P ∧ loP s b = l ∧ sdP b = d ∧ (qbP W D g s b).length = h ∧ tmD W s b = T (sl l d h)
def TD2 (W D : Nat → Int) (g : Nat → Nat) (s n P : Nat) (T : Nat → Int) : Prop := ∀ b, vldP s (n + 1) b → b.length + 1 = P → ∃ h, (qbP W D g s b).length ≤ h ∧ h < P ∧ T (sl (loP s b) (sdP b) h) ≤ tmD W s b
theorem tm_rg (hW : ∀ i, i < n + 1 → 0 ≤ W i ∧ W i ≤ 255) : ∀ b, vldP s (n + 1) b → 0 ≤ tmD W s b ∧ tmD W s b ≤ 255 * b.length := by
  intro b
  induction b with
  | nil => intro _; exact ⟨Int.le_refl _, by show (0 : Int) ≤ 255 * 0; omega⟩
  | cons x r ih =>
    intro hv
    have v1 := (vld_tl hv).1
    have i := ih v1
    have r1 := vld_rg _ hv
    have r2 := vld_rg _ v1
    have w1 := hW (ixP s (x :: r)) (by omega)
    have w2 := hW (ixP s r) (by omega)
    have et : tmD W s (x :: r) = tmD W s r + ab (W (ixP s (x :: r)) - W (ixP s r)) := rfl
    have el : (x :: r).length = r.length + 1 := rfl
    rw [et, el]
    unfold ab
    omega
theorem qb_len (b : List Bool) : (qbP W D g s b).length ≤ b.length := by
  induction b with
  | nil => exact Nat.le_refl _
  | cons x r ih =>
    have el : (x :: r).length = r.length + 1 := rfl
    by_cases c : tmD W s (x :: r) ≤ D (ixP s (x :: r))
    · have eq : qbP W D g s (x :: r) = g (ixP s (x :: r)) :: qbP W D g s r := if_pos c
      rw [eq, el]; show (qbP W D g s r).length + 1 ≤ _; omega
    · have eq : qbP W D g s (x :: r) = qbP W D g s r := if_neg c
      rw [eq, el]; omega
/-- where one stands, where one goes to, when one is there, how many one has then -/
def atG (l d P : Nat) : Nat := if d = 0 then l else l + P - 1
def toG (l P : Nat) (x : Bool) : Nat := if x then l + P else l - 1
def lxG (l : Nat) (x : Bool) : Nat := if x then l else l - 1
def sxG (x : Bool) : Nat := if x then 1 else 0
def tmG (W : Nat → Int) (m : Int) (l d P : Nat) (x : Bool) : Int := if x then m + W (l + P) - W (atG l d P) else m + W (atG l d P) - W (l - 1)
def hxG (W D : Nat → Int) (m : Int) (l d h P : Nat) (x : Bool) : Nat := if D (toG l P x) < tmG W m l d P x then h else h + 1
def okG (n l P : Nat) (x : Bool) : Prop := if x then l + P < n + 1 else 0 < l
/-- the longer stretches of one are written down -/
def don (W D : Nat → Int) (n P : Nat) (T T' : Nat → Int) (l d h : Nat) : Prop := T (sl l d h) < 1000000 → ∀ x, okG n l P x → T' (sl (lxG l x) (sxG x) (hxG W D (T (sl l d h)) l d h P x)) ≤ tmG W (T (sl l d h)) l d P x
theorem don_mono {P : Nat} {T T' T'' : Nat → Int} {l d h : Nat} (hd : don W D n P T T' l d h) (hm : ∀ i, T'' i ≤ T' i) : don W D n P T T'' l d h := fun a x hx => Int.le_trans (hm _) (hd a x hx)
/-- a way, one point longer -/
theorem way_ext (hf : fea W D g s n w dl f) {P : Nat} {b : List Bool} (hv : vldP s (n + 1) b) (hP : b.length + 1 = P) {x : Bool} (hx : okG n (loP s b) P x) : vldP s (n + 1) (x :: b) ∧ loP s (x :: b) = lxG (loP s b) x ∧ sdP (x :: b) = sxG x ∧ ixP s b = atG (loP s b) (sdP b) P ∧ ixP s (x :: b) = toG (loP s b) P x ∧ tmD W s (x :: b) = tmG W (tmD W s b) (loP s b) (sdP b) P x ∧ (qbP W D g s (x :: b)).length = hxG W D (tmD W s b) (loP s b) (sdP b) (qbP W D g s b).length P x := by
  have rg := vld_rg _ hv
  have e0 : ixP s b = atG (loP s b) (sdP b) P := by
    unfold ixP atG
    by_cases c : sdP b = 0
    · rw [if_pos c, if_pos c]
    · rw [if_neg c, if_neg c]; omega
  have hv2 : vldP s (n + 1) (x :: b) := by
    cases x with
    | false => exact ⟨hv, hx⟩
    | true =>
      have hx' : loP s b + P < n + 1 := hx
      exact ⟨hv, by omega⟩
  have rg2 := vld_rg _ hv2
  have e1 : loP s (x :: b) = lxG (loP s b) x := by cases x <;> rfl
  have e2 : sdP (x :: b) = sxG x := by cases x <;> rfl
  have e3 : ixP s (x :: b) = toG (loP s b) P x := by
    cases x with
    | false => rfl
    | true =>
      show hiP s b + 1 = loP s b + P
      omega
  have et : tmD W s (x :: b) = tmD W s b + ab (W (ixP s (x :: b)) - W (ixP s b)) := rfl
  have e4 : tmD W s (x :: b) = tmG W (tmD W s b) (loP s b) (sdP b) P x := by
    rw [et, e3, e0]
    cases x with
    | false =>
      have hx' : 0 < loP s b := hx
      have := hf.2.2.1 (loP s b - 1) (ixP s b) (by omega) (by omega)
      rw [e0] at this
      show tmD W s b + ab (W (loP s b - 1) - W (atG (loP s b) (sdP b) P)) = tmD W s b + W (atG (loP s b) (sdP b) P) - W (loP s b - 1)
      unfold ab; omega
    | true =>
      have hx' : loP s b + P < n + 1 := hx
      have := hf.2.2.1 (ixP s b) (loP s b + P) (by omega) (by omega)
      rw [e0] at this
      show tmD W s b + ab (W (loP s b + P) - W (atG (loP s b) (sdP b) P)) = tmD W s b + W (loP s b + P) - W (atG (loP s b) (sdP b) P)
      unfold ab; omega
  refine ⟨hv2, e1, e2, e0, e3, e4, ?_⟩
  unfold hxG
  rw [← e4, ← e3]
  by_cases c : tmD W s (x :: b) ≤ D (ixP s (x :: b))
  · have eq : qbP W D g s (x :: b) = g (ixP s (x :: b)) :: qbP W D g s b := if_pos c
    rw [eq, if_neg (by omega)]; rfl
  · have eq : qbP W D g s (x :: b) = qbP W D g s b := if_neg c
    rw [eq, if_pos (by omega)]
/-- all stretches have grown: the next table -/
theorem TD2_next (hf : fea W D g s n w dl f) (hn : n ≤ 10) (hW : ∀ i, i < n + 1 → 0 ≤ W i ∧ W i ≤ 255) {P : Nat} (hP1 : 1 ≤ P) {T T' : Nat → Int} (h2 : TD2 W D g s n P T) (hd : ∀ l d h, l + P ≤ n + 1 → d < 2 → h < P → don W D n P T T' l d h) : TD2 W D g s n (P + 1) T' := by
  intro b hv hl
  cases b with
  | nil =>
    have hl' : 0 + 1 = P + 1 := hl
    omega
  | cons x r =>
    have hl' : r.length + 1 + 1 = P + 1 := hl
    have v := (vld_tl hv).1
    have rg := vld_rg _ v
    obtain ⟨h, q1, q2, q3⟩ := h2 r v (by omega)
    have tr := tm_rg hW r v
    have hx : okG n (loP s r) P x := by
      cases x with
      | false => exact hv.2
      | true =>
        have : hiP s r + 1 < n + 1 := hv.2
        show loP s r + P < n + 1
        omega
    obtain ⟨a1, a2, a3, a4, a5, a6, a7⟩ := way_ext hf v (by omega : r.length + 1 = P) hx
    have sd2 : sdP r < 2 := by
      cases r with
      | nil => decide
      | cons y _ =>
        cases y with
        | false => exact (by decide : (0 : Nat) < 2)
        | true => exact (by decide : (1 : Nat) < 2)
    have := hd (loP s r) (sdP r) h (by omega) sd2 q2 (by omega) x hx
    have mono : tmG W (T (sl (loP s r) (sdP r) h)) (loP s r) (sdP r) P x ≤ tmG W (tmD W s r) (loP s r) (sdP r) P x := by
      unfold tmG
      cases x
      · show _ + _ - _ ≤ _ + _ - _; omega
      · show _ + _ - _ ≤ _ + _ - _; omega
    rw [a2, a3, a6, a7]
    refine ⟨hxG W D (T (sl (loP s r) (sdP r) h)) (loP s r) (sdP r) h P x, ?_, ?_, Int.le_trans this mono⟩
    · unfold hxG
      by_cases c : D (toG (loP s r) P x) < tmG W (T (sl (loP s r) (sdP r) h)) (loP s r) (sdP r) P x
      · rw [if_pos c, if_pos (by omega)]; exact q1
      · rw [if_neg c]
        split <;> omega
    · unfold hxG
      split <;> omega
/-- what stays while stretches grow: all but the next table -/
def GS (W D : Nat → Int) (n cur nxt : Nat) (T : Nat → Int) (M : pz_M) : Prop := M 42 2 = cur ∧ M 42 3 = nxt ∧ M 42 4 = ((n + 1 : Nat) : Int) ∧ (∀ i, i < 11 → M 43 i = W i) ∧ (∀ i, i < 11 → M 44 i = D i) ∧ (∀ i, i < 242 → M cur i = T i)
theorem reach_ok {cur nxt p l d h : Nat} {T : Nat → Int} {M : pz_M} {m : Int} (hc : (cur = 45 ∧ nxt = 46) ∨ (cur = 46 ∧ nxt = 45)) (hG : GS W D n cur nxt T M) (hp : p < 11) (hl : l < 11) (hd : d < 2) (hh : h < 10) : ∃ M', m_Path_reach p l d h m M = some (none, M') ∧ GS W D n cur nxt T M' ∧ (∀ i, M' nxt i ≤ M nxt i) ∧ M' nxt (sl l d (if D p < m then h else h + 1)) ≤ m ∧ (∀ i, M' nxt i = M nxt i ∨ (i = sl l d (if D p < m then h else h + 1) ∧ M' nxt i = m)) ∧ ∀ c i, c ≠ nxt → M' c i = M c i := by
  obtain ⟨g1, g2, g3, g4, g5, g6⟩ := hG
  have hcl := c45 (c := nxt) (by omega)
  have go : ∀ (h' : Nat) (w1 w2 w3 w4 w6 : pz_V), h' < 11 → ∃ M', m_Path_reach_22 w1 w2 w3 w4 m w6 h' d l M = some (none, M') ∧ GS W D n cur nxt T M' ∧ (∀ i, M' nxt i ≤ M nxt i) ∧ M' nxt (sl l d h') ≤ m ∧ (∀ i, M' nxt i = M nxt i ∨ (i = sl l d h' ∧ M' nxt i = m)) ∧ ∀ c i, c ≠ nxt → M' c i = M c i := by
    intro h' w1 w2 w3 w4 w6 hh'
    have hlt := sl_lt hl hd hh'
    rw [m_Path_reach_22_eq, slot_ok hl hd hh', bI_some, g2, show ((nxt : Nat) : Int).toNat = nxt from rfl, hcl.1, hcl.2, grd_pos ⟨rfl, by omega, by omega⟩, Math_min, bI_some, grd_pos ⟨rfl, by omega, by omega⟩, bM_eq, show (((sl l d h' : Nat) : Int)).toNat = sl l d h' from rfl]
    refine ⟨_, rfl, ⟨by rw [wr_cell (by omega)]; exact g1, by rw [wr_cell (by omega)]; exact g2, by rw [wr_cell (by omega)]; exact g3, fun i hi => by rw [wr_cell (by omega)]; exact g4 i hi, fun i hi => by rw [wr_cell (by omega)]; exact g5 i hi, fun i hi => by rw [wr_cell (by omega)]; exact g6 i hi⟩, fun i => ?_, ?_, fun i => ?_, fun c i z => wr_cell z⟩
    · rw [wr_at]
      by_cases e : i = sl l d h'
      · rw [if_pos e, e]; omega
      · rw [if_neg e]; exact Int.le_refl _
    · rw [wr_same]; omega
    · rw [wr_at]
      by_cases e : i = sl l d h'
      · rw [if_pos e]
        by_cases c : M nxt (sl l d h') ≤ m
        · left; rw [e]; omega
        · right; exact ⟨e, by omega⟩
      · left; rw [if_neg e]
  rw [m_Path_reach_eq, grd_pos (by omega), show ((p : Nat) : Int).toNat = p from rfl, g5 p hp]
  by_cases c : D p < m
  · rw [if_pos c, if_pos c]
    exact go h _ _ _ _ _ (by omega)
  · rw [if_neg c, if_neg c, ia_eq (by omega) (by omega)]
    exact go (h + 1) _ _ _ _ _ (by omega)
/-- one stretch grows, either way -/
theorem grow_ok (hf : fea W D g s n w dl f) (hn : n ≤ 10) (hW : ∀ i, i < n + 1 → 0 ≤ W i ∧ W i ≤ 255) {cur nxt l d h P : Nat} {T : Nat → Int} {M : pz_M} (hc : (cur = 45 ∧ nxt = 46) ∨ (cur = 46 ∧ nxt = 45)) (hG : GS W D n cur nxt T M) (h1 : TD1 W D g s n P T) (hP : 1 ≤ P) (hl : l + P ≤ n + 1) (hd : d < 2) (hh : h < P) (hPn : P < n + 1) (hN : TD1 W D g s n (P + 1) (M nxt)) : ∃ M', m_Path_grow l P d h M = some (none, M') ∧ GS W D n cur nxt T M' ∧ (∀ i, M' nxt i ≤ M nxt i) ∧ don W D n P T (M' nxt) l d h ∧ TD1 W D g s n (P + 1) (M' nxt) ∧ ∀ c i, c ≠ nxt → M' c i = M c i := by
  have hG' := hG
  obtain ⟨g1, g2, g3, g4, g5, g6⟩ := hG'
  have hcl := c45 (c := cur) (by omega)
  have hlt := sl_lt (l := l) (d := d) (h := h) (by omega) hd (by omega)
  rw [m_Path_grow_eq, slot_ok (by omega) hd (by omega), bI_some, g1, show ((cur : Nat) : Int).toNat = cur from rfl, hcl.1, hcl.2, grd_pos ⟨rfl, by omega, by omega⟩, show (((sl l d h : Nat) : Int)).toNat = sl l d h from rfl, g6 _ hlt]
  by_cases cm : T (sl l d h) < 1000000
  · rw [if_pos cm]
    obtain ⟨b, b1, b2, b3, b4, b5, b6⟩ := h1 l d h (by omega) hd (by omega) cm
    have tr := tm_rg hW b b1
    have hat : atG l d P < n + 1 := by unfold atG; split <;> omega
    have wat := hW _ hat
    have bx : ∀ x, okG n l P x → ∃ b', vldP s (n + 1) b' ∧ b'.length + 1 = P + 1 ∧ loP s b' = lxG l x ∧ sdP b' = sxG x ∧ (qbP W D g s b').length = hxG W D (T (sl l d h)) l d h P x ∧ tmD W s b' = tmG W (T (sl l d h)) l d P x := by
      intro x hx
      rw [← b3] at hx
      obtain ⟨a1, a2, a3, a4, a5, a6, a7⟩ := way_ext hf b1 b2 hx
      rw [b3, b4, b5, b6] at a7
      rw [b3, b4, b6] at a6
      rw [b3] at a2
      exact ⟨x :: b, a1, by show b.length + 1 + 1 = P + 1; omega, a2, a3, a7, a6⟩
    have step : ∀ (M2 : pz_M) (x : Bool), GS W D n cur nxt T M2 → TD1 W D g s n (P + 1) (M2 nxt) → okG n l P x → ∃ M', m_Path_reach ((toG l P x : Nat) : Int) ((lxG l x : Nat) : Int) ((sxG x : Nat) : Int) (h : Int) (tmG W (T (sl l d h)) l d P x) M2 = some (none, M') ∧ GS W D n cur nxt T M' ∧ (∀ i, M' nxt i ≤ M2 nxt i) ∧ M' nxt (sl (lxG l x) (sxG x) (hxG W D (T (sl l d h)) l d h P x)) ≤ tmG W (T (sl l d h)) l d P x ∧ TD1 W D g s n (P + 1) (M' nxt) ∧ ∀ c i, c ≠ nxt → M' c i = M2 c i := by
      intro M2 x hG2 hN2 hx
      have k1 : toG l P x < 11 ∧ lxG l x < 11 ∧ sxG x < 2 := by
        unfold toG lxG sxG
        unfold okG at hx
        cases x
        · have : 0 < l := hx
          refine ⟨by show l - 1 < 11; omega, by show l - 1 < 11; omega, by decide⟩
        · have : l + P < n + 1 := hx
          refine ⟨by show l + P < 11; omega, by show l < 11; omega, by decide⟩
      obtain ⟨M', r1, r2, r3, r4, r5, r6⟩ := reach_ok (m := tmG W (T (sl l d h)) l d P x) hc hG2 k1.1 k1.2.1 k1.2.2 (show h < 10 by omega)
      refine ⟨M', r1, r2, r3, r4, fun l' d' h' q1 q2 q3 q4 => ?_, r6⟩
      rcases r5 (sl l' d' h') with z | ⟨z1, z2⟩
      · rw [z] at q4 ⊢; exact hN2 l' d' h' q1 q2 q3 q4
      · have hx11 : hxG W D (T (sl l d h)) l d h P x < 11 := by unfold hxG; split <;> omega
        obtain ⟨e1, e2, e3⟩ := sl_inj q2 q3 k1.2.2 hx11 z1
        obtain ⟨b', y1, y2, y3, y4, y5, y6⟩ := bx x hx
        rw [z2]
        exact ⟨b', y1, y2, by rw [y3, e1], by rw [y4, e2], by rw [y5, e3], y6⟩
    have e39 : (if (d : Int) = 0 then m_Path_grow_39 l P (pzI (d : Int)) h (T (sl l d h)) pzN (l : Int) M else m_Path_grow_39 l P (pzI (d : Int)) h (T (sl l d h)) pzN (isb (ia (l : Int) (P : Int)) 1) M) = m_Path_grow_39 l P (pzI (d : Int)) h (T (sl l d h)) pzN ((atG l d P : Nat) : Int) M := by
      unfold atG
      by_cases c : d = 0
      · rw [if_pos (show (d : Int) = 0 by omega), if_pos c]
      · rw [if_neg (show ¬ (d : Int) = 0 by omega), if_neg c, ia_eq (by omega) (by omega), isb_eq (by omega) (by omega), show (l : Int) + (P : Int) - 1 = ((l + P - 1 : Nat) : Int) by omega]
    rw [e39, m_Path_grow_39_eq, grd_pos (by omega), show (((atG l d P : Nat) : Int)).toNat = atG l d P from rfl, g4 _ (by omega)]
    have right : ∀ M2 : pz_M, GS W D n cur nxt T M2 → TD1 W D g s n (P + 1) (M2 nxt) → ∃ M', m_Path_grow_73 l P (pzI (d : Int)) h (T (sl l d h)) (W (atG l d P)) M2 = some (none, M') ∧ GS W D n cur nxt T M' ∧ (∀ i, M' nxt i ≤ M2 nxt i) ∧ (okG n l P true → M' nxt (sl (lxG l true) (sxG true) (hxG W D (T (sl l d h)) l d h P true)) ≤ tmG W (T (sl l d h)) l d P true) ∧ TD1 W D g s n (P + 1) (M' nxt) ∧ ∀ c i, c ≠ nxt → M' c i = M2 c i := by
      intro M2 hG2 hN2
      rw [m_Path_grow_73_eq, hG2.2.2.1, ia_eq (x := (l : Int)) (by omega) (by omega)]
      by_cases c : l + P < n + 1
      · have hx : okG n l P true := c
        have wlp := hW (l + P) c
        obtain ⟨M', r1, r2, r3, r4, r5, r6⟩ := step M2 true hG2 hN2 hx
        have r1' : m_Path_reach ((l + P : Nat) : Int) (l : Int) 1 (h : Int) (T (sl l d h) + W (l + P) - W (atG l d P)) M2 = some (none, M') := r1
        rw [if_pos (show (l : Int) + (P : Int) < ((n + 1 : Nat) : Int) by omega), grd_pos (by omega), show ((l : Int) + (P : Int)).toNat = l + P by omega, hG2.2.2.2.1 _ (by omega), ia_eq (x := T (sl l d h)) (by omega) (by omega), isb_eq (x := T (sl l d h) + W (l + P)) (by omega) (by omega), show (l : Int) + (P : Int) = ((l + P : Nat) : Int) by omega, r1', bV_some]
        exact ⟨M', rfl, r2, r3, fun _ => r4, r5, r6⟩
      · rw [if_neg (show ¬ (l : Int) + (P : Int) < ((n + 1 : Nat) : Int) by omega)]
        exact ⟨M2, rfl, hG2, fun _ => Int.le_refl _, fun z => absurd z c, hN2, fun _ _ _ => rfl⟩
    by_cases c0 : 0 < l
    · have hx : okG n l P false := c0
      have wl1 := hW (l - 1) (by omega)
      obtain ⟨M2, r1, r2, r3, r4, r5, r6⟩ := step M false hG hN hx
      have r1' : m_Path_reach ((l - 1 : Nat) : Int) ((l - 1 : Nat) : Int) 0 (h : Int) (T (sl l d h) + W (atG l d P) - W (l - 1)) M = some (none, M2) := r1
      obtain ⟨M3, s1, s2, s3, s4, s5, s6⟩ := right M2 r2 r5
      rw [if_pos (show (0 : Int) < (l : Int) by omega), isb_eq (x := (l : Int)) (by omega) (by omega), grd_pos (by omega), show ((l : Int) - 1).toNat = l - 1 by omega, g4 _ (by omega), ia_eq (x := T (sl l d h)) (by omega) (by omega), isb_eq (x := T (sl l d h) + W (atG l d P)) (by omega) (by omega), show (l : Int) - 1 = ((l - 1 : Nat) : Int) by omega, r1', bV_some, s1]
      refine ⟨M3, rfl, s2, fun i => Int.le_trans (s3 i) (r3 i), fun _ x hxx => ?_, s5, fun c i z => by rw [s6 c i z, r6 c i z]⟩
      cases x with
      | false => exact Int.le_trans (s3 _) r4
      | true => exact s4 hxx
    · obtain ⟨M3, s1, s2, s3, s4, s5, s6⟩ := right M hG hN
      rw [if_neg (show ¬ (0 : Int) < (l : Int) by omega), s1]
      refine ⟨M3, rfl, s2, s3, fun _ x hxx => ?_, s5, s6⟩
      cases x with
      | false => exact absurd hxx c0
      | true => exact s4 hxx
  · rw [if_neg cm]
    exact ⟨M, rfl, hG, fun _ => Int.le_refl _, fun z => absurd z cm, hN, fun _ _ _ => rfl⟩
end
