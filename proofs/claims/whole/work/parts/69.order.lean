/-! ===== picked up: the reference's minutes ===== -/
def stL : List Nat → Nat
  | [] => 0
  | l :: r => stL r ||| 2 ^ l
theorem st_mem : ∀ (q : List Nat) (k : Nat), (stL q).testBit k = decide (k ∈ q) := by
  intro q
  induction q with
  | nil => intro k; simp [stL]
  | cons l r ih =>
    intro k
    show (stL r ||| 2 ^ l).testBit k = _
    rw [Nat.testBit_or, ih, Nat.testBit_two_pow]
    by_cases e : k = l
    · subst e; simp
    · have : ¬ l = k := fun z => e z.symm
      simp [this, e]
theorem st_lt {w dl : Nat → Int} {f : Int} {n : Nat} : ∀ q, okR w dl f n q → stL q < 2 ^ n := by
  intro q
  induction q with
  | nil => intro _; exact Nat.pow_pos (by decide)
  | cons l r ih =>
    intro h
    exact Nat.or_lt_two_pow (ih h.1) (Nat.pow_lt_pow_right (by decide) h.2.1)
theorem st_tl {l S : Nat} {r : List Nat} (hl : l ∉ r) (h : stL (l :: r) = S) : stL r = S ^^^ 2 ^ l := by
  subst h
  apply Nat.eq_of_testBit_eq
  intro k
  rw [Nat.testBit_xor, Nat.testBit_two_pow]
  show _ = ((stL r ||| 2 ^ l).testBit k ^^ _)
  rw [Nat.testBit_or, Nat.testBit_two_pow]
  by_cases e : l = k
  · subst e
    rw [st_mem, decide_eq_false hl]; simp
  · simp [e]
theorem st_cons {l S : Nat} {r : List Nat} (hS : S.testBit l = true) (h : stL r = S ^^^ 2 ^ l) : stL (l :: r) = S ∧ l ∉ r := by
  have hl : l ∉ r := by
    intro hm
    have := st_mem r l
    rw [h, Nat.testBit_xor, Nat.testBit_two_pow, hS, decide_eq_true hm] at this
    simp at this
  refine ⟨?_, hl⟩
  apply Nat.eq_of_testBit_eq
  intro k
  show (stL r ||| 2 ^ l).testBit k = _
  rw [Nat.testBit_or, h, Nat.testBit_xor, Nat.testBit_two_pow]
  by_cases e : l = k
  · subst e; rw [hS]; simp
  · simp [e]
theorem Mod_has_ok {S k : Nat} (hS : S < 2147483648) (hk : k < 32) (N : pz_M) : m_Mod_has (S : Int) (k : Int) N = some (some (pzI (b01 (S.testBit k = true))), N) := by
  rw [m_Mod_has_eq, bit_nat hS hk]
  cases S.testBit k with
  | true => rw [if_pos rfl, if_pos rfl, b01_t rfl]
  | false => rw [if_neg (by decide), b01_f (by decide)]
theorem Mod_size_ok {z : Int} (h1 : -100000 ≤ z) (h2 : z ≤ 100000) (N : pz_M) : m_Mod_size z N = some (some (pzI (ab z)), N) := by
  rw [m_Mod_size_eq]
  unfold ab
  by_cases c : z < 0
  · rw [if_pos c, ing_eq (by omega) (by omega), show max z (-z) = -z by omega]
  · rw [if_neg c, show max z (-z) = z by omega]
/-- the bytes that were taken -/
def btY (N : pz_M) (t : Nat → Int) : Prop := ∀ i, i < 260 → -128 ≤ N 107 i ∧ N 107 i ≤ 127 ∧ N 107 i % 256 = t i
theorem oc_ok {N : pz_M} {t : Nat → Int} (h : btY N t) {i : Nat} (hi : i < 260) : m_Mod_octet (i : Int) N = some (some (pzI (t i)), N) := by
  obtain ⟨h1, h2, h3⟩ := h i hi
  have := Mod_octet (N := N) (x := (i : Int)) (by omega) (by omega) ⟨h1, h2⟩
  rw [show ((i : Nat) : Int).toNat = i from rfl, h3] at this
  exact this
theorem bt_rg {N : pz_M} {t : Nat → Int} (h : btY N t) {i : Nat} (hi : i < 260) : 0 ≤ t i ∧ t i ≤ 255 := by
  obtain ⟨h1, h2, h3⟩ := h i hi
  omega
abbrev wT (t : Nat → Int) (k : Nat) : Int := t (2 * k)
abbrev dT (t : Nat → Int) (k : Nat) : Int := t (2 * k + 1)
/-- a minute of the reference's row is right -/
def vOK (t : Nat → Int) (f : Int) (n S l : Nat) (v : Int) : Prop := 0 ≤ v ∧ v ≤ 1000000 ∧ (v < 1000000 → ∃ r, okR (wT t) (dT t) f n (l :: r) ∧ stL (l :: r) = S ∧ tmR (wT t) f (l :: r) = v) ∧ ∀ r, okR (wT t) (dT t) f n (l :: r) → stL (l :: r) = S → v ≤ tmR (wT t) f (l :: r)
def lsOK (t : Nat → Int) (f : Int) (n R l k : Nat) (v : Int) : Prop := 0 ≤ v ∧ v ≤ 1000000 ∧ (v < 1000000 → ∃ r, okR (wT t) (dT t) f n r ∧ stL r = R ∧ v = tmR (wT t) f r + ab (wT t l - psR (wT t) f r)) ∧ ∀ r, okR (wT t) (dT t) f n r → stL r = R → (∀ k' r', r = k' :: r' → k' < k) → v ≤ tmR (wT t) f r + ab (wT t l - psR (wT t) f r)
theorem minute_L {t : Nat → Int} {f : Int} {n S l : Nat} {N : pz_M} {w2 w3 : pz_V} (hn : n ≤ 10) (hN : btY N t) (hS : S < 2 ^ n) (hl : l < n) (hb : S.testBit l = true) (hV : ∀ k, k < n → (S ^^^ 2 ^ l).testBit k = true → vOK t f n (S ^^^ 2 ^ l) k (N 132 (10 * (S ^^^ 2 ^ l) + k))) (hR : S ^^^ 2 ^ l < 1024) : ∀ (j k : Nat) (v : Int), k + j = n → lsOK t f n (S ^^^ 2 ^ l) l k v → ∃ v', m_Mod_minuteAt_39 n w2 w3 l ((S ^^^ 2 ^ l : Nat) : Int) v k N = some (some (pzI v'), N) ∧ vOK t f n S l v' := by
  have hw := bt_rg hN (i := 2 * l) (by omega)
  have hd := bt_rg hN (i := 2 * l + 1) (by omega)
  intro j
  induction j with
  | zero =>
    intro k v hk h
    obtain ⟨h1, h2, h3, h4⟩ := h
    have o1 := oc_ok hN (i := 2 * l + 1) (by omega)
    rw [m_Mod_minuteAt_39_eq, if_neg (show ¬ (k : Int) < (n : Int) by omega), imu_eq (by omega) (by omega), ia_eq (by omega) (by omega), show 2 * (l : Int) + 1 = ((2 * l + 1 : Nat) : Int) by omega, o1, bI_some]
    by_cases c : t (2 * l + 1) < v
    · rw [if_pos c]
      refine ⟨1000000, rfl, by omega, by omega, fun z => by omega, fun r hr hs => ?_⟩
      exfalso
      have := h4 r hr.1 (st_tl hr.2.2.1 hs) (fun k' r' e => by have := hr.1; rw [e] at this; have := this.2.1; omega)
      have hr4 : tmR (wT t) f r + ab (wT t l - psR (wT t) f r) ≤ t (2 * l + 1) := hr.2.2.2
      omega
    · rw [if_neg c]
      refine ⟨v, rfl, h1, h2, fun z => ?_, fun r hr hs => ?_⟩
      · obtain ⟨r, r1, r2, r3⟩ := h3 z
        obtain ⟨s1, s2⟩ := st_cons hb r2
        refine ⟨r, ⟨r1, hl, s2, ?_⟩, s1, r3.symm⟩
        show tmR (wT t) f r + ab (wT t l - psR (wT t) f r) ≤ t (2 * l + 1)
        omega
      · exact h4 r hr.1 (st_tl hr.2.2.1 hs) (fun k' r' e => by have := hr.1; rw [e] at this; have := this.2.1; omega)
  | succ j ih =>
    intro k v hk h
    obtain ⟨h1, h2, h3, h4⟩ := h
    rw [m_Mod_minuteAt_39_eq, if_pos (show (k : Int) < (n : Int) by omega), Mod_has_ok (by omega) (by omega), bI_some, b01_ite, ia_eq (x := (k : Int)) (by omega) (by omega)]
    by_cases c : (S ^^^ 2 ^ l).testBit k = true
    · have hwk := bt_rg hN (i := 2 * k) (by omega)
      have o1 := oc_ok hN (i := 2 * l) (by omega)
      have o2 := oc_ok hN (i := 2 * k) (by omega)
      obtain ⟨v1, v2, v3, v4⟩ := hV k (by omega) c
      generalize hx : N 132 (10 * (S ^^^ 2 ^ l) + k) = x at v1 v2 v3 v4
      have hab : 0 ≤ ab (t (2 * l) - t (2 * k)) ∧ ab (t (2 * l) - t (2 * k)) ≤ 255 := by unfold ab; omega
      rw [if_pos c, imu_eq (x := 10) (by omega) (by omega), ia_eq (x := 10 * ((S ^^^ 2 ^ l : Nat) : Int)) (by omega) (by omega), grd_pos (by omega), imu_eq (x := 2) (y := (l : Int)) (by omega) (by omega), imu_eq (x := 2) (y := (k : Int)) (by omega) (by omega), show 2 * (l : Int) = ((2 * l : Nat) : Int) by omega, show 2 * (k : Int) = ((2 * k : Nat) : Int) by omega, o1, bI_some, o2, bI_some, isb_eq (by omega) (by omega), Mod_size_ok (by omega) (by omega), bI_some, show (10 * ((S ^^^ 2 ^ l : Nat) : Int) + (k : Int)).toNat = 10 * (S ^^^ 2 ^ l) + k by omega, hx, ia_eq (by omega) (by omega), Mod_min, bI_some]
      refine ih (k + 1) _ (by omega) ⟨by omega, by omega, fun z => ?_, fun r hr hs hh => ?_⟩
      · by_cases cv : v ≤ x + ab (t (2 * l) - t (2 * k))
        · rw [show min v (x + ab (t (2 * l) - t (2 * k))) = v by omega] at z ⊢
          exact h3 z
        · rw [show min v (x + ab (t (2 * l) - t (2 * k))) = x + ab (t (2 * l) - t (2 * k)) by omega] at z ⊢
          obtain ⟨r, r1, r2, r3⟩ := v3 (by omega)
          refine ⟨k :: r, r1, r2, ?_⟩
          rw [r3]
          rfl
      · by_cases e : ∃ r', r = k :: r'
        · obtain ⟨r', e⟩ := e
          subst e
          have := v4 r' hr hs
          have e2 : psR (wT t) f (k :: r') = t (2 * k) := rfl
          have e3 : wT t l = t (2 * l) := rfl
          rw [e2, e3]
          omega
        · have := h4 r hr hs (fun k' r' e2 => by
            have := hh k' r' e2
            by_cases ek : k' = k
            · exact absurd ⟨r', by rw [e2, ek]⟩ e
            · omega)
          omega
    · rw [if_neg c]
      refine ih (k + 1) v (by omega) ⟨h1, h2, h3, fun r hr hs hh => h4 r hr hs (fun k' r' e2 => ?_)⟩
      have := hh k' r' e2
      by_cases ek : k' = k
      · exfalso
        apply c
        rw [← hs, st_mem, e2, ek]
        exact decide_eq_true List.mem_cons_self
      · omega
theorem minute_ok {t : Nat → Int} {f : Int} {n S l : Nat} {N : pz_M} (hn : n ≤ 10) (hN : btY N t) (hf : 0 ≤ f ∧ f ≤ 255) (hS : S < 2 ^ n) (hl : l < n) (hb : S.testBit l = true) (hV : ∀ k, k < n → (S ^^^ 2 ^ l).testBit k = true → vOK t f n (S ^^^ 2 ^ l) k (N 132 (10 * (S ^^^ 2 ^ l) + k))) : ∃ v', m_Mod_minuteAt n f S l N = some (some (pzI v'), N) ∧ vOK t f n S l v' := by
  have p10 : 2 ^ n ≤ 1024 := show 2 ^ n ≤ 2 ^ 10 from Nat.pow_le_pow_right (by omega) hn
  have pl : 2 ^ l < 2 ^ n := Nat.pow_lt_pow_right (by omega) hl
  have hR : S ^^^ 2 ^ l < 1024 := Nat.lt_of_lt_of_le (Nat.xor_lt_two_pow hS pl) p10
  have hw := bt_rg hN (i := 2 * l) (by omega)
  have hdif : ian (S : Int) (ixo (ihl 1 (l : Int)) (-1)) = ((S ^^^ 2 ^ l : Nat) : Int) := by
    rw [ihl_1 (by omega)]
    refine dif_nat (by omega) (by omega) (fun i hi => ?_)
    rw [Nat.testBit_two_pow] at hi
    have : l = i := of_decide_eq_true hi
    rw [← this]; exact hb
  rw [m_Mod_minuteAt_eq, hdif]
  by_cases c : S ^^^ 2 ^ l = 0
  · have o1 := oc_ok hN (i := 2 * l) (by omega)
    rw [if_pos (show ((S ^^^ 2 ^ l : Nat) : Int) = 0 by omega), imu_eq (x := 2) (y := (l : Int)) (by omega) (by omega), show 2 * (l : Int) = ((2 * l : Nat) : Int) by omega, o1, bI_some, isb_eq (by omega) (by omega), Mod_size_ok (by omega) (by omega), bI_some]
    have hab : 0 ≤ ab (t (2 * l) - f) ∧ ab (t (2 * l) - f) ≤ 255 := by unfold ab; omega
    refine minute_L hn hN hS hl hb hV hR n 0 _ (by omega) ⟨by omega, by omega, fun _ => ⟨[], trivial, c.symm, ?_⟩, fun r hr hs hh => ?_⟩
    · show ab (t (2 * l) - f) = 0 + ab (t (2 * l) - f)
      omega
    · cases r with
      | nil =>
        show ab (t (2 * l) - f) ≤ 0 + ab (t (2 * l) - f)
        omega
      | cons k' r' => exact absurd (hh k' r' rfl) (Nat.not_lt_zero _)
  · rw [if_neg (show ¬ ((S ^^^ 2 ^ l : Nat) : Int) = 0 by omega)]
    refine minute_L hn hN hS hl hb hV hR n 0 _ (by omega) ⟨by omega, by omega, fun z => by omega, fun r hr hs hh => ?_⟩
    cases r with
    | nil => exact absurd hs.symm c
    | cons k' r' => exact absurd (hh k' r' rfl) (Nat.not_lt_zero _)
theorem ok_lt {w dl : Nat → Int} {f : Int} {n : Nat} : ∀ q, okR w dl f n q → ∀ k, k ∈ q → k < n := by
  intro q
  induction q with
  | nil => intro _ k hk; cases hk
  | cons l r ih =>
    intro h k hk
    rcases List.mem_cons.mp hk with z | z
    · rw [z]; exact h.2.1
    · exact ih h.1 k z
theorem len_pop {w dl : Nat → Int} {f : Int} {n : Nat} (hn : n ≤ 24) {q : List Nat} (h : okR w dl f n q) : popN (stL q) 24 = (q.length : Int) := by
  rw [ok_len q h, popN_cnt, cntB_congr (Q := fun i => decide (i < n) && decide (i ∈ q)) 24 (fun c _ => by
    rw [st_mem]
    by_cases e : c ∈ q
    · rw [decide_eq_true e, decide_eq_true (ok_lt q h c e)]; rfl
    · rw [decide_eq_false e, Bool.and_false])]
  exact cntB_cut _ n 24 hn
theorem picked_L {t : Nat → Int} {f : Int} {n S : Nat} (hn : n ≤ 10) (hf : 0 ≤ f ∧ f ≤ 255) (hS1 : 1 ≤ S) (hS : S < 2 ^ n) : ∀ (j l : Nat) (N : pz_M) (most : Int) (w : pz_V), l + j = n → btY N t → (∀ S' k, 1 ≤ S' → S' < S → k < n → S'.testBit k = true → vOK t f n S' k (N 132 (10 * S' + k))) → (∀ k, k < l → S.testBit k = true → vOK t f n S k (N 132 (10 * S + k))) → (∃ q, okR (wT t) (dT t) f n q ∧ (q.length : Int) = most) → (∀ k r, okR (wT t) (dT t) f n (k :: r) → (stL (k :: r) < S ∨ (stL (k :: r) = S ∧ k < l)) → ((k :: r).length : Int) ≤ most) → ∃ most' N' w5 w6, m_Mod_pickedUp_54 n f most S l w N = m_Mod_pickedUp_43 n f most' ((S : Int) + 1) w5 w6 N' ∧ (∀ c i, c ≠ 132 → N' c i = N c i) ∧ (∀ S' k, 1 ≤ S' → S' < S + 1 → k < n → S'.testBit k = true → vOK t f n S' k (N' 132 (10 * S' + k))) ∧ (∃ q, okR (wT t) (dT t) f n q ∧ (q.length : Int) = most') ∧ (∀ k r, okR (wT t) (dT t) f n (k :: r) → stL (k :: r) < S + 1 → ((k :: r).length : Int) ≤ most') := by
  have p10 : 2 ^ n ≤ 1024 := show 2 ^ n ≤ 2 ^ 10 from Nat.pow_le_pow_right (by omega) hn
  intro j
  induction j with
  | zero =>
    intro l N most w hl hN hV hV2 hq hm
    rw [m_Mod_pickedUp_54_eq, if_neg (show ¬ (l : Int) < (n : Int) by omega), ia_eq (by omega) (by omega)]
    refine ⟨most, N, _, _, rfl, fun _ _ _ => rfl, fun S' k h1 h2 h3 h4 => ?_, hq, fun k r hr hs => ?_⟩
    · by_cases e : S' = S
      · subst e; exact hV2 k (by omega) h4
      · exact hV S' k h1 (by omega) h3 h4
    · exact hm k r hr (by
        have := hr.2.1
        omega)
  | succ j ih =>
    intro l N most w hl hN hV hV2 hq hm
    rw [m_Mod_pickedUp_54_eq, if_pos (show (l : Int) < (n : Int) by omega), Mod_has_ok (by omega) (by omega), bI_some, b01_ite]
    have go : ∀ (v : Int) (most2 : Int) (wq : pz_V), (S.testBit l = true → vOK t f n S l v) → (∃ q, okR (wT t) (dT t) f n q ∧ (q.length : Int) = most2) → most ≤ most2 → (∀ r, okR (wT t) (dT t) f n (l :: r) → stL (l :: r) = S → ((l :: r).length : Int) ≤ most2) → ∃ most' N' w5 w6, m_Mod_pickedUp_54 n f most2 S ((l : Int) + 1) wq (pz_wr N 132 (10 * S + l) v) = m_Mod_pickedUp_43 n f most' ((S : Int) + 1) w5 w6 N' ∧ (∀ c i, c ≠ 132 → N' c i = N c i) ∧ (∀ S' k, 1 ≤ S' → S' < S + 1 → k < n → S'.testBit k = true → vOK t f n S' k (N' 132 (10 * S' + k))) ∧ (∃ q, okR (wT t) (dT t) f n q ∧ (q.length : Int) = most') ∧ (∀ k r, okR (wT t) (dT t) f n (k :: r) → stL (k :: r) < S + 1 → ((k :: r).length : Int) ≤ most') := by
      intro v most2 wq hv hq2 hmm hl2
      obtain ⟨most', N', w5, w6, a1, a2, a3, a4, a5⟩ := ih (l + 1) (pz_wr N 132 (10 * S + l) v) most2 wq (by omega) (fun i hi => by rw [wr_cell (by decide)]; exact hN i hi) (fun S' k h1 h2 h3 h4 => by rw [wr_idx (by omega)]; exact hV S' k h1 h2 h3 h4) (fun k h1 h2 => by
        rw [wr_at]
        by_cases e : k = l
        · rw [if_pos (by omega), e]
          exact hv (by rw [← e]; exact h2)
        · rw [if_neg (by omega)]; exact hV2 k (by omega) h2) hq2 (fun k r hr hs => by
        by_cases e : k = l ∧ stL (k :: r) = S
        · rw [e.1]; exact hl2 r (by rw [← e.1]; exact hr) (by rw [← e.1]; exact e.2)
        · have := hm k r hr (by omega)
          omega)
      exact ⟨most', N', w5, w6, a1, fun c i z => by rw [a2 c i z, wr_cell z], a3, a4, a5⟩
    have e86 : ∀ s0 : Int, m_Mod_pickedUp_86 n f most S l w s0 N = bM (pz_wr N 132 (10 * S + l) s0) fun M1 => if s0 < (1000000 : Int) then (bI (m_Mod_bits (S : Int) M1) fun r3 M2 => bI (m_Mod_max most r3 M2) fun r5 M4 => m_Mod_pickedUp_54 n f r5 S ((l : Int) + 1) (pzI s0) M4) else (m_Mod_pickedUp_54 n f most S ((l : Int) + 1) (pzI s0) M1) := by
      intro s0
      rw [m_Mod_pickedUp_86_eq, imu_eq (by omega) (by omega), ia_eq (x := 10 * (S : Int)) (by omega) (by omega), grd_pos (by omega), ia_eq (x := (l : Int)) (by omega) (by omega), show (10 * (S : Int) + (l : Int)).toNat = 10 * S + l by omega]
    by_cases c : S.testBit l = true
    · have s2 : sub2 (2 ^ l) S := sub2_of (fun i hi => by
        rw [Nat.testBit_two_pow] at hi
        have : l = i := of_decide_eq_true hi
        rw [← this]; exact c)
      have hlt := xor_lt s2 (Nat.pow_pos (by decide))
      obtain ⟨v, g1, g2⟩ := minute_ok (S := S) (l := l) hn hN hf hS (by omega) c (fun k h1 h2 => hV _ k (by
        rcases Nat.eq_zero_or_pos (S ^^^ 2 ^ l) with z | z
        · rw [z] at h2; simp at h2
        · exact z) hlt h1 h2)
      rw [if_pos c, g1, bI_some, e86, bM_eq]
      obtain ⟨v1, v2, v3, v4⟩ := g2
      by_cases cv : v < 1000000
      · rw [if_pos cv, Mod_bits (by omega), bI_some, Mod_max, bI_some]
        obtain ⟨r, r1, r2, r3⟩ := v3 cv
        have hp := len_pop (by omega) r1
        rw [r2] at hp
        refine go v _ _ (fun _ => ⟨v1, v2, v3, v4⟩) ?_ (by omega) (fun r' hr' hs' => ?_)
        · by_cases cm : most ≤ popN S 24
          · exact ⟨l :: r, r1, by rw [show max most (popN S 24) = popN S 24 by omega, hp]⟩
          · rw [show max most (popN S 24) = most by omega]; exact hq
        · have hp' := len_pop (by omega) hr'
          rw [hs'] at hp'
          omega
      · rw [if_neg cv]
        refine go v most _ (fun _ => ⟨v1, v2, v3, v4⟩) hq (Int.le_refl _) (fun r' hr' hs' => ?_)
        exfalso
        have h1 := v4 r' hr' hs'
        have h2 := hr'.2.2.2
        have h3 := bt_rg hN (i := 2 * l + 1) (by omega)
        have h4 : dT t l = t (2 * l + 1) := rfl
        omega
    · rw [if_neg c, e86, bM_eq, if_neg (show ¬ (1000000 : Int) < 1000000 by omega)]
      refine go 1000000 most _ (fun z => absurd z c) hq (Int.le_refl _) (fun r' hr' hs' => ?_)
      exfalso
      apply c
      rw [← hs', st_mem]
      exact decide_eq_true List.mem_cons_self
theorem picked_ref {t : Nat → Int} {f : Int} {n : Nat} (hn : n ≤ 10) (hf : 0 ≤ f ∧ f ≤ 255) : ∀ (j S : Nat) (N : pz_M) (most : Int) (w5 w6 : pz_V), S + j = 2 ^ n → 1 ≤ S → btY N t → (∀ S' k, 1 ≤ S' → S' < S → k < n → S'.testBit k = true → vOK t f n S' k (N 132 (10 * S' + k))) → (∃ q, okR (wT t) (dT t) f n q ∧ (q.length : Int) = most) → (∀ k r, okR (wT t) (dT t) f n (k :: r) → stL (k :: r) < S → ((k :: r).length : Int) ≤ most) → ∃ most' N', m_Mod_pickedUp_43 n f most S w5 w6 N = some (some (pzI most'), N') ∧ (∀ c i, c ≠ 132 → N' c i = N c i) ∧ (∃ q, okR (wT t) (dT t) f n q ∧ (q.length : Int) = most') ∧ (∀ q, okR (wT t) (dT t) f n q → (q.length : Int) ≤ most') := by
  have p10 : 2 ^ n ≤ 1024 := show 2 ^ n ≤ 2 ^ 10 from Nat.pow_le_pow_right (by omega) hn
  have hp : ihl 1 (n : Int) = ((2 ^ n : Nat) : Int) := ihl_1 (by omega)
  intro j
  induction j with
  | zero =>
    intro S N most w5 w6 hS h1 hN hV hq hm
    rw [m_Mod_pickedUp_43_eq, hp, if_neg (show ¬ (S : Int) < ((2 ^ n : Nat) : Int) by omega)]
    refine ⟨most, N, rfl, fun _ _ _ => rfl, hq, fun q ho => ?_⟩
    cases q with
    | nil =>
      obtain ⟨q0, _, e⟩ := hq
      show (0 : Int) ≤ most
      omega
    | cons k r => exact hm k r ho (by have := st_lt _ ho; omega)
  | succ j ih =>
    intro S N most w5 w6 hS h1 hN hV hq hm
    rw [m_Mod_pickedUp_43_eq, hp, if_pos (show (S : Int) < ((2 ^ n : Nat) : Int) by omega)]
    obtain ⟨most', N', u5, u6, a1, a2, a3, a4, a5⟩ := picked_L hn hf h1 (by omega) n 0 N most w6 (by omega) hN hV (fun k hk => absurd hk (Nat.not_lt_zero k)) hq (fun k r hr hs => hm k r hr (by omega))
    have a1' : m_Mod_pickedUp_54 n f most S 0 w6 N = m_Mod_pickedUp_43 n f most' ((S : Int) + 1) u5 u6 N' := a1
    rw [a1']
    obtain ⟨m2, N2, b1, b2, b3, b4⟩ := ih (S + 1) N' most' u5 u6 (by omega) (by omega) (fun i hi => by rw [a2 107 i (by decide)]; exact hN i hi) a3 a4 a5
    exact ⟨m2, N2, b1, fun c i z => by rw [b2 c i z, a2 c i z], b3, b4⟩
