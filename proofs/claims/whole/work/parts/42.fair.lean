/-! fair: the desk's way -/
/-- what hand h gets of the weights from i on, j of them -/
def ld (w : Nat → Int) (c : Nat → Nat) (h : Nat) : Nat → Nat → Int
  | _, 0 => 0
  | i, j + 1 => (if c i = h then w i else 0) + ld w c h (i + 1) j
theorem ld_congr {w : Nat → Int} {c d : Nat → Nat} {h : Nat} : ∀ (j i : Nat), (∀ x, i ≤ x → x < i + j → c x = d x) → ld w c h i j = ld w d h i j := by
  intro j
  induction j with
  | zero => intro i _; rfl
  | succ j ih =>
    intro i hh
    show (if c i = h then w i else 0) + ld w c h (i + 1) j = (if d i = h then w i else 0) + ld w d h (i + 1) j
    rw [ih (i + 1) (fun x h1 h2 => hh x (by omega) (by omega)), hh i (by omega) (by omega)]
theorem ld_nn {w : Nat → Int} {c : Nat → Nat} {h : Nat} : ∀ (j i : Nat), (∀ x, i ≤ x → x < i + j → 0 ≤ w x) → 0 ≤ ld w c h i j := by
  intro j
  induction j with
  | zero => intro i _; exact Int.le_refl _
  | succ j ih =>
    intro i hh
    have h1 := ih (i + 1) (fun x h1 h2 => hh x (by omega) (by omega))
    have h2 := hh i (by omega) (by omega)
    show 0 ≤ (if c i = h then w i else 0) + ld w c h (i + 1) j
    split <;> omega
def swp (a b x : Nat) : Nat := if x = a then b else if x = b then a else x
theorem ld_swp {w : Nat → Int} {c : Nat → Nat} {a b h : Nat} : ∀ (j i : Nat), ld w (fun x => swp a b (c x)) (swp a b h) i j = ld w c h i j := by
  intro j
  induction j with
  | zero => intro i; rfl
  | succ j ih =>
    intro i
    show (if swp a b (c i) = swp a b h then w i else 0) + ld w (fun x => swp a b (c x)) (swp a b h) (i + 1) j = (if c i = h then w i else 0) + ld w c h (i + 1) j
    rw [ih (i + 1)]
    have e : swp a b (c i) = swp a b h ↔ c i = h := by
      unfold swp
      (repeat' split) <;> omega
    by_cases z : c i = h
    · rw [if_pos z, if_pos (e.mpr z)]
    · rw [if_neg z, if_neg (fun y => z (e.mp y))]
theorem swp_swp (a b x : Nat) : swp a b (swp a b x) = x := by
  unfold swp
  (repeat' split) <;> omega
def smf (M M' : pz_M) : Prop := ∀ c i, ¬ (c = 35 ∧ i = 4) → M' c i = M c i
theorem Sh_out {m k : Nat} {w : Nat → Int} (hm : m ≤ 10) (k1 : 1 ≤ k) (k4 : k ≤ 4) (hw : ∀ i, i < m → 0 ≤ w i ∧ w i ≤ 99) : ∀ (j f d : Nat) (M : pz_M) (g B : Int), f + j = m → 4 + j ≤ d → M 35 2 = m → M 35 3 = k → M 35 4 = B → (∀ i, i < m → M 36 i = w i) → 0 ≤ g → g ≤ B → B ≤ 1000 → (∀ h, h < k → 0 ≤ M 37 h ∧ M 37 h ≤ g) → (g = 0 ∨ ∃ h, h < k ∧ M 37 h = g) → (∀ h h', h ≤ h' → h' < k → M 37 h = 0 → M 37 h' = 0) →
    ∃ (M' : pz_M) (B' : Int), m_Sharing_shareOut d (f : Int) g M = some (none, M') ∧ M' 35 4 = B' ∧ smf M M' ∧ 0 ≤ B' ∧ B' ≤ B ∧ (B' = B ∨ ∃ c : Nat → Nat, (∀ i, c i < k) ∧ ∀ h, h < k → M 37 h + ld w c h f j ≤ B') ∧ (∀ (v : Int) (c : Nat → Nat), 0 ≤ v → (∀ i, c i < k) → (∀ h, h < k → M 37 h + ld w c h f j ≤ v) → B' ≤ v) := by
  intro j
  induction j with
  | zero =>
    intro f d M g B hj hd h2 h3 h4 h36 g0 gB B1 hs hg hp
    rw [m_Sharing_shareOut_eq, h2, if_neg (show ¬ (f : Int) < m by omega), bM_eq]
    refine ⟨_, g, rfl, wr_same, fun c i z => by unfold pz_wr; rw [if_neg z], g0, gB, Or.inr ⟨fun _ => 0, fun _ => (show (0 : Nat) < k by omega), fun h hh => ?_⟩, fun v c v0 hc hv => ?_⟩
    · show M 37 h + 0 ≤ g
      have := (hs h hh).2
      omega
    · rcases hg with e | ⟨h, hh, e⟩
      · omega
      · have : M 37 h + 0 ≤ v := hv h hh
        omega
  | succ j ih =>
    intro f d M g B hj hd h2 h3 h4 h36 g0 gB B1 hs hg hp
    have hwf := hw f (by omega)
    rw [m_Sharing_shareOut_eq, h2, if_pos (show (f : Int) < m by omega)]
    have I : ∀ (n i : Nat) (M1 : pz_M) (B1' : Int) (w4 w5 : pz_V), i + n = k → smf M M1 → M1 35 4 = B1' → 0 ≤ B1' → B1' ≤ B → g ≤ B1' → (B1' = B ∨ ∃ c : Nat → Nat, (∀ i, c i < k) ∧ ∀ h, h < k → M 37 h + ld w c h f (j + 1) ≤ B1') → (∀ h, h < i → M 37 h ≠ 0) → (∀ (v : Int) (c : Nat → Nat), 0 ≤ v → (∀ i, c i < k) → c f < i → (∀ h, h < k → M 37 h + ld w c h f (j + 1) ≤ v) → B1' ≤ v) →
        ∃ (M' : pz_M) (B' : Int), m_Sharing_shareOut_16 d (f : Int) g (i : Int) w4 w5 M1 = some (none, M') ∧ M' 35 4 = B' ∧ smf M M' ∧ 0 ≤ B' ∧ B' ≤ B ∧ (B' = B ∨ ∃ c : Nat → Nat, (∀ i, c i < k) ∧ ∀ h, h < k → M 37 h + ld w c h f (j + 1) ≤ B') ∧ (∀ (v : Int) (c : Nat → Nat), 0 ≤ v → (∀ i, c i < k) → (∀ h, h < k → M 37 h + ld w c h f (j + 1) ≤ v) → B' ≤ v) := by
      intro n
      induction n with
      | zero =>
        intro i M1 B1' w4 w5 hi sm1 hB b0 bB gb sd nz cov
        rw [m_Sharing_shareOut_16_eq, sm1 35 3 (by omega), h3, if_neg (show ¬ (i : Int) < k by omega)]
        exact ⟨M1, B1', rfl, hB, sm1, b0, bB, sd, fun v c v0 hc hv => cov v c v0 hc (by have := hc f; omega) hv⟩
      | succ n ihn =>
        intro i M1 B1' w4 w5 hi sm1 hB b0 bB gb sd nz cov
        have hsi := hs i (by omega)
        have e37 : ∀ h, M1 37 h = M 37 h := fun h => sm1 37 h (by omega)
        have e36 : M1 36 f = w f := by rw [sm1 36 f (by omega)]; exact h36 f (by omega)
        rw [m_Sharing_shareOut_16_eq, sm1 35 3 (by omega), h3, if_pos (show (i : Int) < k by omega), if_pos (show (i : Int) < 4 by omega), grd_pos (by omega), grd_pos (by omega), show ((i : Nat) : Int).toNat = i from rfl, show ((f : Nat) : Int).toNat = f from rfl, e37 i, e36, hB, ia_eq (x := M 37 i) (by omega) (by omega)]
        /- behind this hand -/
        have fin : ∀ (M5 : pz_M) (B5 : Int) (w5 : pz_V), smf M M5 → M5 35 4 = B5 → 0 ≤ B5 → B5 ≤ B → g ≤ B5 → (B5 = B ∨ ∃ c : Nat → Nat, (∀ i, c i < k) ∧ ∀ h, h < k → M 37 h + ld w c h f (j + 1) ≤ B5) → (∀ (v : Int) (c : Nat → Nat), 0 ≤ v → (∀ i, c i < k) → c f < i + 1 → (∀ h, h < k → M 37 h + ld w c h f (j + 1) ≤ v) → B5 ≤ v) → ∃ (M' : pz_M) (B' : Int), m_Sharing_shareOut_86 d (f : Int) g (i : Int) (M 37 i) w5 M5 = some (none, M') ∧ M' 35 4 = B' ∧ smf M M' ∧ 0 ≤ B' ∧ B' ≤ B ∧ (B' = B ∨ ∃ c : Nat → Nat, (∀ i, c i < k) ∧ ∀ h, h < k → M 37 h + ld w c h f (j + 1) ≤ B') ∧ (∀ (v : Int) (c : Nat → Nat), 0 ≤ v → (∀ i, c i < k) → (∀ h, h < k → M 37 h + ld w c h f (j + 1) ≤ v) → B' ≤ v) := by
          intro M5 B5 w5 s5 hB5 b50 b5B g5 sd5 cov5
          rw [m_Sharing_shareOut_86_eq]
          by_cases z : M 37 i = 0
          · rw [if_pos z]
            refine ⟨M5, B5, rfl, hB5, s5, b50, b5B, sd5, fun v c v0 hc hv => ?_⟩
            by_cases ci : c f < i + 1
            · exact cov5 v c v0 hc ci hv
            · have zc : M 37 (c f) = 0 := hp i (c f) (by omega) (hc f) z
              refine cov5 v (fun x => swp i (c f) (c x)) v0 (fun x => ?_) ?_ (fun h hh => ?_)
              · have h1 := hc x
                have h2 := hc f
                show swp i (c f) (c x) < k
                unfold swp
                (repeat' split) <;> omega
              · show swp i (c f) (c f) < i + 1
                unfold swp
                (repeat' split) <;> omega
              · have hs2 : swp i (c f) h < k := by
                  have h2 := hc f
                  unfold swp
                  (repeat' split) <;> omega
                have hv2 := hv (swp i (c f) h) hs2
                have el := ld_swp (w := w) (c := c) (a := i) (b := c f) (h := swp i (c f) h) (j + 1) f
                rw [swp_swp] at el
                have es : M 37 (swp i (c f) h) = M 37 h := by
                  unfold swp
                  split
                  · rename_i q; rw [q, zc, z]
                  · split
                    · rename_i q; rw [q, zc, z]
                    · rfl
                rw [el, ← es]
                exact hv2
          · rw [if_neg z, ia_eq (by omega) (by omega)]
            refine ihn (i + 1) M5 B5 _ _ (by omega) s5 hB5 b50 b5B g5 sd5 (fun h hh => ?_) cov5
            by_cases e : h = i
            · rw [e]; exact z
            · exact nz h (by omega)
        by_cases c : M 37 i + w f < B1'
        · rw [if_pos c, grd_pos (by omega), bM_eq, grd_pos (by omega), Math_max, bI_some, grd_pos (by omega), ia_eq (x := (f : Int)) (by omega) (by omega)]
          have r37 : ∀ h, pz_wr M1 37 i (M 37 i + w f) 37 h = if h = i then M 37 i + w f else M 37 h := fun h => by rw [wr_at, e37]
          have ro : ∀ c h, c ≠ 37 → pz_wr M1 37 i (M 37 i + w f) c h = M1 c h := fun c h z => wr_cell z
          have hgm : max g (M 37 i + w f) ≤ B1' := by omega
          obtain ⟨M4, B4, p1, p2, p3, p4, p5, p6, p7⟩ := ih (f + 1) (d - 1) (pz_wr M1 37 i (M 37 i + w f)) (max g (M 37 i + w f)) B1' (by omega) (by omega) (by rw [ro 35 2 (by decide), sm1 35 2 (by omega)]; exact h2) (by rw [ro 35 3 (by decide), sm1 35 3 (by omega)]; exact h3) (by rw [ro 35 4 (by decide)]; exact hB) (fun x hx => by rw [ro 36 x (by decide), sm1 36 x (by omega)]; exact h36 x hx) (by omega) hgm (by omega) (fun h hh => by
              rw [r37]
              have := hs h hh
              split <;> omega) (by
              by_cases q : g ≤ M 37 i + w f
              · right
                exact ⟨i, by omega, by rw [r37, if_pos rfl]; omega⟩
              · rcases hg with e | ⟨h, hh, e⟩
                · omega
                · right
                  refine ⟨h, hh, ?_⟩
                  rw [r37, if_neg (by intro y; rw [y] at e; omega), e]
                  omega) (fun h h' q1 q2 q3 => by
              rw [r37] at q3 ⊢
              by_cases e : h = i
              · rw [if_pos e] at q3
                have zi : M 37 i = 0 := by omega
                by_cases e' : h' = i
                · rw [if_pos e']; exact q3
                · rw [if_neg e']; exact hp i h' (by omega) q2 zi
              · rw [if_neg e] at q3
                by_cases l : h < i
                · exact absurd q3 (nz h l)
                · rw [if_neg (by omega)]; exact hp h h' q1 q2 q3)
          have p1' : m_Sharing_shareOut (d - 1) ((f : Int) + 1) (max g (M 37 i + w f)) (pz_wr M1 37 i (M 37 i + w f)) = some (none, M4) := p1
          have eld : ∀ (c : Nat → Nat) (h : Nat), ld w c h f (j + 1) = (if c f = h then w f else 0) + ld w c h (f + 1) j := fun _ _ => rfl
          rw [p1', bV_some, grd_pos (by omega), bM_eq]
          have s5 : smf M (pz_wr M4 37 i (M 37 i)) := by
            intro c h z
            by_cases q : c = 37 ∧ h = i
            · rw [q.1, q.2, wr_same]
            · have e1 : pz_wr M4 37 i (M 37 i) c h = M4 c h := by unfold pz_wr; rw [if_neg q]
              have e2 : pz_wr M1 37 i (M 37 i + w f) c h = M1 c h := by unfold pz_wr; rw [if_neg q]
              rw [e1, p3 c h z, e2, sm1 c h z]
          have cv : ∀ (v : Int) (c : Nat → Nat), 0 ≤ v → (∀ i, c i < k) → c f < i + 1 → (∀ h, h < k → M 37 h + ld w c h f (j + 1) ≤ v) → B4 ≤ v := by
            intro v c v0 hc cf hv
            by_cases e : c f = i
            · refine p7 v c v0 hc (fun h hh => ?_)
              have := hv h hh
              rw [eld] at this
              rw [r37]
              by_cases q : h = i
              · rw [if_pos q]; rw [if_pos (by omega), q] at this; rw [q]; omega
              · rw [if_neg q]; rw [if_neg (by omega)] at this; omega
            · have := cov v c v0 hc (by omega) hv
              omega
          by_cases gb4 : g ≤ B4
          · refine fin (pz_wr M4 37 i (M 37 i)) B4 _ s5 (by rw [wr_cell (by decide)]; exact p2) p4 (by omega) gb4 ?_ cv
            rcases p6 with e | ⟨c, hc, hv⟩
            · rw [e]; exact sd
            · right
              refine ⟨fun x => if x = f then i else c x, fun x => ?_, fun h hh => ?_⟩
              · show (if x = f then i else c x) < k
                have := hc x
                split <;> omega
              · have := hv h hh
                rw [r37] at this
                have ec : ld w (fun x => if x = f then i else c x) h (f + 1) j = ld w c h (f + 1) j := ld_congr j (f + 1) (fun x h1 h2 => if_neg (by omega))
                rw [eld, ec]
                show M 37 h + ((if (if f = f then i else c f) = h then w f else 0) + ld w c h (f + 1) j) ≤ B4
                rw [if_pos rfl]
                by_cases q : h = i
                · rw [if_pos q] at this; rw [if_pos q.symm, q]; rw [q] at this; omega
                · rw [if_neg q] at this; rw [if_neg (fun y => q y.symm)]; omega
          · exfalso
            rcases p6 with e | ⟨c, hc, hv⟩
            · omega
            · rcases hg with e | ⟨h, hh, e⟩
              · omega
              · have := hv h hh
                rw [r37] at this
                have l0 := ld_nn (w := w) (c := c) (h := h) j (f + 1) (fun x h1 h2 => (hw x (by omega)).1)
                split at this
                · rename_i q; rw [q] at e; omega
                · omega
        · rw [if_neg c]
          refine fin M1 B1' _ sm1 hB b0 bB gb sd (fun v c2 v0 hc cf hv => ?_)
          by_cases e : c2 f = i
          · have := hv i (by omega)
            have eld : ld w c2 i f (j + 1) = (if c2 f = i then w f else 0) + ld w c2 i (f + 1) j := rfl
            have l0 := ld_nn (w := w) (c := c2) (h := i) j (f + 1) (fun x h1 h2 => (hw x (by omega)).1)
            rw [eld, if_pos e] at this
            omega
          · exact cov v c2 v0 hc (by omega) hv
    exact I k 0 M B _ _ (by omega) (fun _ _ _ => rfl) h4 (by omega) (by omega) gB (Or.inl rfl) (fun h hh => by omega) (fun v c v0 hc cf => by omega)
