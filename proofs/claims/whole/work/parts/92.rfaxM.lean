/-! the reference's reading of a fax strip -/
abbrev xR : Nat → Prop := fun j => j = 34 ∨ j = 36 ∨ j = 37
/-- the rows of the fresh picture below y -/
def mG (h : fx_H) (w : Int) (f : Int → Int → Int) (y : Int) : Prop := ∀ x v : Int, 0 ≤ x → x < w → 0 ≤ v → v < y → h.2.2.1 34 (w * v + x).toNat = f x v
def is01 (r : Int → Int) : Prop := ∀ i, r i = 0 ∨ r i = 1
theorem is01.pnt {r : Int → Int} {x y c : Int} (h : is01 r) (hc : c = 0 ∨ c = 1) : is01 (pnt r x y c) := by
  intro i
  show (if _ then c else r i) = 0 ∨ (if _ then c else r i) = 1
  split
  · exact hc
  · exact h i
theorem lnI_01 {L : List Int} {e w : Int} : ∀ {m : Nat} {p x c : Int} {r : Int → Int} {q : Int} {r2 : Int → Int}, (c = 0 ∨ c = 1) → is01 r → lnI L e w m p x c r = some (q, r2) → is01 r2 ∧ q ≤ e ∨ q = p ∧ is01 r2
  | 0, p, x, c, r, q, r2, hc, h0, h => by simp [lnI] at h
  | m + 1, p, x, c, r, q, r2, hc, h0, h => by
    unfold lnI at h
    split at h
    · injection h with h; injection h with h1 h2; subst h1 h2; exact Or.inr ⟨rfl, h0⟩
    · split at h
      · exact absurd h (by simp)
      · rename_i n q1 h1
        have r1 := rd_R h1
        split at h
        · exact absurd h (by simp)
        · rcases lnI_01 (by omega) (h0.pnt hc) h with h2 | h2
          · exact Or.inl h2
          · exact Or.inl ⟨h2.2, by omega⟩
theorem lnA_01 {L : List Int} {e w : Int} {o : Int → Int} : ∀ {m : Nat} {p x c : Int} {r : Int → Int} {q : Int} {r2 : Int → Int}, (c = 0 ∨ c = 1) → is01 r → lnA L e w o m p x c r = some (q, r2) → is01 r2
  | 0, p, x, c, r, q, r2, hc, h0, h => by simp [lnA] at h
  | m + 1, p, x, c, r, q, r2, hc, h0, h => by
    unfold lnA at h
    split at h
    · injection h with h; injection h with h1 h2; subst h2; exact h0
    · split at h
      · exact absurd h (by simp)
      · split at h
        · split at h
          · exact absurd h (by simp)
          · split at h
            · exact absurd h (by simp)
            · exact lnA_01 hc ((h0.pnt hc).pnt (by omega)) h
        · split at h
          · split at h
            · exact lnA_01 hc (h0.pnt hc) h
            · exact absurd h (by simp)
          · split at h
            · exact lnA_01 (by omega) (h0.pnt hc) h
            · exact absurd h (by simp)
theorem ln1_01 {L : List Int} {e w mk top y p q : Int} {f : Int → Int → Int} {r : Int → Int} (h : ln1 L e w mk top y p f = some (q, r)) : is01 r := by
  have z01 : is01 (fun _ => 0) := fun _ => Or.inl rfl
  unfold ln1 at h
  split at h
  · split at h
    · split at h
      · rcases lnI_01 (Or.inl rfl) z01 h with h | h
        · exact h.1
        · exact h.2
      · exact lnA_01 (Or.inl rfl) z01 h
    · exact absurd h (by simp)
  · exact lnA_01 (Or.inl rfl) z01 h
section RN
variable {l : Launch} {Q : Option Value → fx_H → Prop} {h : fx_H} {a : Nat → Nat} {pp dd : Nat} {L : List Int} {b p e z : Int} {g w t mk sc : Int} {f : Int → Int → Int}
theorem m_inBitsW {n : Nat} (hS : h.1 = fx_S0 a pp dd) (c : mB h L p e z) (hn : n ≤ 30) (k : ∀ h2 r p2 z2, mo fN rF h h2 → mB h2 L p2 e z2 → 0 ≤ r → r < 2 ^ n → (z2 = 0 → z = 0 ∧ p + n ≤ e ∧ r = bn L p n ∧ p2 = p + n) → (¬ z2 = 0 → z = 1 ∨ e < p + n) → Q (some (.int (zI r))) h2) : fx_Mt l M_MO_inBits (0, 0) [.ref 31, .int (zI (n : Nat))] h Q :=
  m_inBits hS c hn (fun z0 he h2 m2 c2 => k h2 _ _ 0 m2 c2 (bn_R L p n).1 (bn_R L p n).2 (fun _ => ⟨z0, he, rfl, rfl⟩) (fun u => absurd rfl u)) (fun hl h2 r p2 m2 c2 r0 r1 => k h2 r p2 1 m2 c2 r0 r1 (fun u => by omega) (fun _ => hl))
theorem m_inBitW (hS : h.1 = fx_S0 a pp dd) (c : mB h L p e z) (k : ∀ h2 r p2 z2, mo fN rF h h2 → mB h2 L p2 e z2 → (r = 0 ∨ r = 1) → (z2 = 0 → z = 0 ∧ p + 1 ≤ e ∧ r = bt L p ∧ p2 = p + 1) → (¬ z2 = 0 → z = 1 ∨ e < p + 1) → Q (some (.int (zI r))) h2) : fx_Mt l M_MO_inBit (0, 0) [.ref 31] h Q := by
  have hz := c.2.2.2.1
  exact m_inBit hS c (fun he h2 m2 c2 => k h2 _ _ z m2 c2 (bt_01 L p) (fun z0 => ⟨z0, by omega, rfl, rfl⟩) (fun u => Or.inl (by omega))) (fun he h2 m2 c2 => k h2 _ _ 1 m2 c2 (Or.inl rfl) (fun u => by omega) (fun _ => Or.inr (by omega)))
theorem v_faxEnd (hS : h.1 = fx_S0 a pp dd) (cb : mB h L p e z) (hsc : h.2.1 31 12 = sc) (hsc2 : sc = 3 ∨ sc = 4) (hmk : mk = if sc = 3 then 1 else 0) (k1 : z = 0 → fxD L e mk p → ∀ h2 q, mo fN rF h h2 → mB h2 L q e 0 → Q none h2) (k0 : (z = 1 ∨ ¬ fxD L e mk p) → ∀ h2 p2, mo fN rF h h2 → mB h2 L p2 e 1 → Q none h2) : zR (h.2.1 31 12) ∧ ((¬ (h.2.1 31 12) = 4 → fx_Mt l M_MO_inRest (0, 0) [.ref 31] h (fun v h6 => v = none ∧ h6.1 = h.1 ∧ Q none h6)) ∧ ((h.2.1 31 12) = 4 → fx_Mt l M_MO_inBits (0, 0) [.ref 31, .int (zI 12)] h (fun v h8 => ∃ r10 : Int, v = some (.int (zI r10)) ∧ h8.1 = h.1 ∧ zR r10 ∧ ((¬ r10 = 1 → fx_Mt l M_MO_need (0, 0) [.ref 31, .int (zI 0)] h8 (fun v h13 => ∃ r15 : Int, v = some (.int (zI r15)) ∧ h13.1 = h8.1 ∧ fx_Mt l M_MO_inBits (0, 0) [.ref 31, .int (zI 12)] h13 (fun v h16 => ∃ r18 : Int, v = some (.int (zI r18)) ∧ h16.1 = h13.1 ∧ zR r18 ∧ ((¬ r18 = 1 → fx_Mt l M_MO_need (0, 0) [.ref 31, .int (zI 0)] h16 (fun v h21 => ∃ r23 : Int, v = some (.int (zI r23)) ∧ h21.1 = h16.1 ∧ fx_Mt l M_MO_inRest (0, 0) [.ref 31] h21 (fun v h24 => v = none ∧ h24.1 = h21.1 ∧ Q none h24))) ∧ (r18 = 1 → fx_Mt l M_MO_need (0, 0) [.ref 31, .int (zI 1)] h16 (fun v h26 => ∃ r28 : Int, v = some (.int (zI r28)) ∧ h26.1 = h16.1 ∧ fx_Mt l M_MO_inRest (0, 0) [.ref 31] h26 (fun v h29 => v = none ∧ h29.1 = h26.1 ∧ Q none h29))))))) ∧ (r10 = 1 → fx_Mt l M_MO_need (0, 0) [.ref 31, .int (zI 1)] h8 (fun v h31 => ∃ r33 : Int, v = some (.int (zI r33)) ∧ h31.1 = h8.1 ∧ fx_Mt l M_MO_inBits (0, 0) [.ref 31, .int (zI 12)] h31 (fun v h34 => ∃ r36 : Int, v = some (.int (zI r36)) ∧ h34.1 = h31.1 ∧ zR r36 ∧ ((¬ r36 = 1 → fx_Mt l M_MO_need (0, 0) [.ref 31, .int (zI 0)] h34 (fun v h39 => ∃ r41 : Int, v = some (.int (zI r41)) ∧ h39.1 = h34.1 ∧ fx_Mt l M_MO_inRest (0, 0) [.ref 31] h39 (fun v h42 => v = none ∧ h42.1 = h39.1 ∧ Q none h42))) ∧ (r36 = 1 → fx_Mt l M_MO_need (0, 0) [.ref 31, .int (zI 1)] h34 (fun v h44 => ∃ r46 : Int, v = some (.int (zI r46)) ∧ h44.1 = h34.1 ∧ fx_Mt l M_MO_inRest (0, 0) [.ref 31] h44 (fun v h47 => v = none ∧ h47.1 = h44.1 ∧ Q none h47))))))))))) := by
  have hz := cb.2.2.2.1
  rw [hsc]
  refine ⟨by omega, fun u => ?_, fun u => ?_⟩
  · have e1 : fxD L e mk p ↔ rest L p e := by unfold fxD; rw [if_pos (by rw [hmk, if_pos (by omega)])]
    exact m_inRest hS cb (fun z0 hr h2 m2 c2 => ⟨rfl, m2.S, k1 z0 (e1.mpr hr) h2 _ m2 c2⟩) (fun hl h2 p2 m2 c2 => ⟨rfl, m2.S, k0 (hl.imp id (fun w u2 => w (e1.mp u2))) h2 p2 m2 c2⟩)
  · have eD : fxD L e mk p ↔ (p + 12 ≤ e ∧ bn L p 12 = 1) ∧ (p + 12 + 12 ≤ e ∧ bn L (p + 12) 12 = 1) ∧ rest L (p + 12 + 12) e := by unfold fxD; rw [if_neg (by rw [hmk, if_neg (by omega)]; omega)]
    have step2 : ∀ (h5 : fx_H) (p5 z5 : Int), mo fN rF h h5 → mB h5 L p5 e z5 → (z5 = 0 → z = 0 ∧ (p + 12 ≤ e ∧ bn L p 12 = 1) ∧ p5 = p + 12) → (¬ z5 = 0 → z = 1 ∨ ¬ (p + 12 ≤ e ∧ bn L p 12 = 1)) → fx_Mt l M_MO_inBits (0, 0) [.ref 31, .int (zI 12)] h5 (fun v h16 => ∃ r18 : Int, v = some (.int (zI r18)) ∧ h16.1 = h5.1 ∧ zR r18 ∧ ((¬ r18 = 1 → fx_Mt l M_MO_need (0, 0) [.ref 31, .int (zI 0)] h16 (fun v h21 => ∃ r23 : Int, v = some (.int (zI r23)) ∧ h21.1 = h16.1 ∧ fx_Mt l M_MO_inRest (0, 0) [.ref 31] h21 (fun v h24 => v = none ∧ h24.1 = h21.1 ∧ Q none h24))) ∧ (r18 = 1 → fx_Mt l M_MO_need (0, 0) [.ref 31, .int (zI 1)] h16 (fun v h26 => ∃ r28 : Int, v = some (.int (zI r28)) ∧ h26.1 = h16.1 ∧ fx_Mt l M_MO_inRest (0, 0) [.ref 31] h26 (fun v h29 => v = none ∧ h29.1 = h26.1 ∧ Q none h29))))) := by
      intro h5 p5 z5 m5 c5 g5 l5
      have rst : ∀ (h6 : fx_H) (p6 z6 : Int), mo fN rF h h6 → mB h6 L p6 e z6 → (z6 = 0 → z5 = 0 ∧ (p5 + 12 ≤ e ∧ bn L p5 12 = 1) ∧ p6 = p5 + 12) → (¬ z6 = 0 → z5 = 1 ∨ ¬ (p5 + 12 ≤ e ∧ bn L p5 12 = 1)) → fx_Mt l M_MO_inRest (0, 0) [.ref 31] h6 (fun v h24 => v = none ∧ h24.1 = h6.1 ∧ Q none h24) := by
        intro h6 p6 z6 m6 c6 g6 l6
        have hz6 := c6.2.2.2.1
        refine m_inRest (m6.S.trans hS) c6 (fun z0 hr h7 m7 c7 => ⟨rfl, m7.S, ?_⟩) (fun hl h7 p7 m7 c7 => ⟨rfl, m7.S, ?_⟩)
        · obtain ⟨z50, q2, rfl⟩ := g6 z0
          obtain ⟨z00, q1, rfl⟩ := g5 z50
          exact k1 z00 (eD.mpr ⟨q1, q2, hr⟩) h7 _ (m6.tr m7) c7
        · refine k0 ?_ h7 p7 (m6.tr m7) c7
          by_cases z60 : z6 = 0
          · obtain ⟨z50, q2, rfl⟩ := g6 z60
            obtain ⟨z00, q1, rfl⟩ := g5 z50
            rcases hl with hl | hl
            · omega
            · exact Or.inr fun u2 => hl (eD.mp u2).2.2
          · by_cases z50 : z5 = 0
            · obtain ⟨z00, q1, rfl⟩ := g5 z50
              rcases l6 z60 with q | q
              · omega
              · exact Or.inr fun u2 => q (eD.mp u2).2.1
            · rcases l5 z50 with q | q
              · exact Or.inl q
              · exact Or.inr fun u2 => q (eD.mp u2).1
      refine m_inBitsW (n := 12) (m5.S.trans hS) c5 (by omega) fun h6 r p6 z6 m6 c6 r0 r1 g6 l6 => ⟨_, rfl, m6.S, by omega, fun r9 => ?_, fun r9 => ?_⟩
      · refine m_needF ((m5.tr m6).S.trans hS) c6 fun h7 m7 c7 => ⟨_, rfl, m7.S, rst h7 _ 1 ((m5.tr m6).tr m7) c7 (fun q => by omega) (fun _ => ?_)⟩
        by_cases z60 : z6 = 0
        · obtain ⟨q1, q2, q3, q4⟩ := g6 z60
          exact Or.inr fun q => r9 (q3.trans q.2)
        · rcases l6 z60 with q | q
          · exact Or.inl q
          · exact Or.inr fun q2 => by have := q2.1; omega
      · refine m_needT ((m5.tr m6).S.trans hS) c6 fun h7 m7 c7 => ⟨_, rfl, m7.S, rst h7 _ z6 ((m5.tr m6).tr m7) c7 (fun q => ?_) (fun q => ?_)⟩
        · obtain ⟨q1, q2, q3, q4⟩ := g6 q
          exact ⟨q1, ⟨q2, by rw [← q3]; exact r9⟩, q4⟩
        · rcases l6 q with q | q
          · exact Or.inl q
          · exact Or.inr fun q2 => by have := q2.1; omega
    refine m_inBitsW (n := 12) hS cb (by omega) fun h6 r p6 z6 m6 c6 r0 r1 g6 l6 => ⟨_, rfl, m6.S, by omega, fun r9 => ?_, fun r9 => ?_⟩
    · refine m_needF (m6.S.trans hS) c6 fun h7 m7 c7 => ⟨_, rfl, m7.S, step2 h7 _ 1 (m6.tr m7) c7 (fun q => by omega) (fun _ => ?_)⟩
      by_cases z60 : z6 = 0
      · obtain ⟨q1, q2, q3, q4⟩ := g6 z60
        exact Or.inr fun q => r9 (q3.trans q.2)
      · rcases l6 z60 with q | q
        · exact Or.inl q
        · exact Or.inr fun q2 => by have := q2.1; omega
    · refine m_needT (m6.S.trans hS) c6 fun h7 m7 c7 => ⟨_, rfl, m7.S, step2 h7 _ z6 (m6.tr m7) c7 (fun q => ?_) (fun q => ?_)⟩
      · obtain ⟨q1, q2, q3, q4⟩ := g6 q
        exact ⟨q1, ⟨q2, by rw [← q3]; exact r9⟩, q4⟩
      · rcases l6 q with q | q
        · exact Or.inl q
        · exact Or.inr fun q2 => by have := q2.1; omega
theorem mG.mo {PA PF : Nat → Prop} {h h2 : fx_H} {y : Int} (c : mG h w f y) (m : mo PA PF h h2) (hA : ¬ PA 34) : mG h2 w f y := fun x v h1 h3 h4 h5 => by rw [m.1.2.2.1 34 _ (by rintro (q | q); omega; exact hA q)]; exact c x v h1 h3 h4 h5
theorem mo.fx {h h2 : fx_H} (m : mo fN rF h h2) : mo xR rF h h2 := m.mono (fun j q => by omega) (fun k q => q)
theorem mo.nx {h h2 : fx_H} (m : mo nA rF h h2) : mo xR rF h h2 := m.mono (fun j q => by omega) (fun k q => q)
/-- the line is copied into the fresh picture -/
theorem v_fresh {top n y : Int} {z2 : Int} {q : Int} (hS : h.1 = fx_S0 a pp dd) (cb : mB h L q e z2) (hw : h.2.1 31 15 = w) (hw1 : 1 ≤ w) (hw2 : w ≤ 40) (hy : 0 ≤ y) (hyt : y < 24) (k : ∀ h2, mo xR (fun k => k < 0) h h2 → (∀ i : Int, 0 ≤ i → i < w → h2.2.2.1 34 (w * y + i).toNat = h.2.2.1 36 i.toNat) → (∀ x v : Int, 0 ≤ x → x < w → 0 ≤ v → v < y → h2.2.2.1 34 (w * v + x).toNat = h.2.2.1 34 (w * v + x).toNat) → (∀ i, h2.2.2.1 36 i = h.2.2.1 36 i) → fx_V l M_MO_inFax (0, 0) Q 0 0 2 [some (.ref 31), some (.int (zI top)), some (.int (zI n)), some (.int (zI (y + 1))), none, none] [] h2) : fx_V l M_MO_inFax (0, 0) Q 0 0 149 [some (.ref 31), some (.int (zI top)), some (.int (zI n)), some (.int (zI y)), none, some (.int (zI 0))] [] h := by
  have hyw : 0 ≤ w * y ∧ w * y ≤ 920 := by
    refine ⟨Int.mul_nonneg (by omega) hy, ?_⟩
    have h1 : w * y ≤ 40 * y := Int.mul_le_mul_of_nonneg_right hw2 hy
    omega
  have loop : ∀ (m : Nat) (x5 : Int) (h2 : fx_H), 0 ≤ x5 → x5 + m = w → mo xR (fun k => k < 0) h h2 → (∀ i : Int, 0 ≤ i → i < x5 → h2.2.2.1 34 (w * y + i).toNat = h.2.2.1 36 i.toNat) → (∀ x v : Int, 0 ≤ x → x < w → 0 ≤ v → v < y → h2.2.2.1 34 (w * v + x).toNat = h.2.2.1 34 (w * v + x).toNat) → (∀ i, h2.2.2.1 36 i = h.2.2.1 36 i) → fx_V l M_MO_inFax (0, 0) Q 0 0 149 [some (.ref 31), some (.int (zI top)), some (.int (zI n)), some (.int (zI y)), none, some (.int (zI x5))] [] h2 := by
    intro m
    induction m with
    | zero =>
      intro x5 h2 h5 hm m2 a2 b2 d2
      have e5 : x5 = w := by omega
      subst e5
      refine w_MO_inFax_149 (m2.S.trans hS) ?_
      rw [m2.2 15 (by omega), hw]
      exact ⟨by omega, by omega, fun _ => k h2 m2 a2 b2 d2, fun u => absurd (Int.le_refl _) u⟩
    | succ m ih =>
      intro x5 h2 h5 hm m2 a2 b2 d2
      refine w_MO_inFax_149 (m2.S.trans hS) ?_
      rw [m2.2 15 (by omega), hw]
      refine ⟨by omega, by omega, fun u => by omega, fun _ => ⟨by omega, by omega, by omega, by omega, ih (x5 + 1) _ (by omega) (by omega) (m2.tr (mo.uA (Or.inl rfl))) (fun i hi hi2 => ?_) (fun x v h1 h3 h4 h6 => ?_) (fun i => ?_)⟩⟩
      · by_cases hix : i = x5
        · subst hix; rw [uA_s, d2]
        · rw [uA_n _ _ (by omega)]; exact a2 i hi (by omega)
      · have hv : w * v ≤ w * y - w := by
          have h7 : w * v ≤ w * (y - 1) := Int.mul_le_mul_of_nonneg_left (by omega) (by omega)
          rw [Int.mul_sub, Int.mul_one] at h7
          exact h7
        have hv0 : 0 ≤ w * v := Int.mul_nonneg (by omega) h4
        rw [uA_n _ _ (by omega)]; exact b2 x v h1 h3 h4 h6
      · rw [uA_n _ _ (by omega)]; exact d2 i
  exact loop w.toNat 0 h (by omega) (by omega) mo.rf (fun i h1 h2 => by omega) (fun _ _ _ _ _ _ => rfl) (fun _ => rfl)
/-- the row above is brought -/
theorem v_above {top n y : Int} (hS : h.1 = fx_S0 a pp dd) (hw : h.2.1 31 15 = w) (hw1 : 1 ≤ w) (hw2 : w ≤ 40) (hy : zR y) (htop : zR top) (k : ∀ h2, mo xR (fun k => k < 0) h h2 → (∀ i : Int, 0 ≤ i → i < w → h2.2.2.1 37 i.toNat = if y = top then 0 else h.2.2.1 36 i.toNat) → (∀ i, h2.2.2.1 34 i = h.2.2.1 34 i) → fx_V l M_MO_inFax (0, 0) Q 0 0 19 [some (.ref 31), some (.int (zI top)), some (.int (zI n)), some (.int (zI y)), some (.int (zI w)), none] [] h2) : fx_V l M_MO_inFax (0, 0) Q 0 0 19 [some (.ref 31), some (.int (zI top)), some (.int (zI n)), some (.int (zI y)), some (.int (zI 0)), none] [] h := by
  have loop : ∀ (m : Nat) (x4 : Int) (h2 : fx_H), 0 ≤ x4 → x4 + m = w → mo xR (fun k => k < 0) h h2 → (∀ i : Int, 0 ≤ i → i < x4 → h2.2.2.1 37 i.toNat = if y = top then 0 else h.2.2.1 36 i.toNat) → (∀ i, h2.2.2.1 34 i = h.2.2.1 34 i) → (∀ i, h2.2.2.1 36 i = h.2.2.1 36 i) → fx_V l M_MO_inFax (0, 0) Q 0 0 19 [some (.ref 31), some (.int (zI top)), some (.int (zI n)), some (.int (zI y)), some (.int (zI x4)), none] [] h2 := by
    intro m
    induction m with
    | zero =>
      intro x4 h2 h4 hm m2 a2 b2 d2
      have e4 : x4 = w := by omega
      subst e4
      exact k h2 m2 a2 b2
    | succ m ih =>
      intro x4 h2 h4 hm m2 a2 b2 d2
      refine w_MO_inFax_19 (m2.S.trans hS) ?_
      rw [m2.2 15 (by omega), hw]
      refine ⟨by omega, by omega, fun u => by omega, fun _ => ⟨hy, htop, fun u => ⟨by omega, by omega, by omega, by omega, ih (x4 + 1) _ (by omega) (by omega) (m2.tr (mo.uA (Or.inr (Or.inr rfl)))) (fun i hi hi2 => ?_) (fun i => by rw [uA_n _ _ (by omega)]; exact b2 i) (fun i => by rw [uA_n _ _ (by omega)]; exact d2 i)⟩, fun u => ⟨by omega, by omega, ih (x4 + 1) _ (by omega) (by omega) (m2.tr (mo.uA (Or.inr (Or.inr rfl)))) (fun i hi hi2 => ?_) (fun i => by rw [uA_n _ _ (by omega)]; exact b2 i) (fun i => by rw [uA_n _ _ (by omega)]; exact d2 i)⟩⟩⟩
      · by_cases hix : i = x4
        · subst hix; rw [uA_s, d2, if_neg u]
        · rw [uA_n _ _ (by omega)]; exact a2 i hi (by omega)
      · by_cases hix : i = x4
        · subst hix; rw [uA_s, if_pos u]
        · rw [uA_n _ _ (by omega)]; exact a2 i hi (by omega)
  exact loop w.toNat 0 h (by omega) (by omega) mo.rf (fun i h1 h2 => by omega) (fun _ => rfl) (fun _ => rfl)
/-- one line -/
theorem v_line {top n y : Int} (hS : h.1 = fx_S0 a pp dd) (mc : mC h) (cb : mB h L p e 0) (nv : mV h (oth f top y) w) (o01 : is01 (oth f top y)) (hw : h.2.1 31 15 = w) (hw1 : 1 ≤ w) (hw2 : w ≤ 40) (hsc : h.2.1 31 12 = sc) (hsc2 : sc = 3 ∨ sc = 4) (hmk : mk = if sc = 3 then 1 else 0) (hy : zR y) (htop : zR top) (hty : top ≤ y) (k1 : ∀ q r, ln1 L e w mk top y p f = some (q, r) → ∀ h2, mo nA rF h h2 → mB h2 L q e 0 → mN h2 r w → fx_V l M_MO_inFax (0, 0) Q 0 0 149 [some (.ref 31), some (.int (zI top)), some (.int (zI n)), some (.int (zI y)), none, some (.int (zI 0))] [] h2) (k0 : ln1 L e w mk top y p f = none → ∀ h2 p2, mo nA rF h h2 → mB h2 L p2 e 1 → fx_V l M_MO_inFax (0, 0) Q 0 0 149 [some (.ref 31), some (.int (zI top)), some (.int (zI n)), some (.int (zI y)), none, some (.int (zI 0))] [] h2) : fx_V l M_MO_inFax (0, 0) Q 0 0 19 [some (.ref 31), some (.int (zI top)), some (.int (zI n)), some (.int (zI y)), some (.int (zI w)), none] [] h := by
  refine w_MO_inFax_19 hS ?_
  rw [hw, hsc]
  refine ⟨by omega, by omega, fun _ => ⟨by omega, fun u => ?_, fun u => ?_⟩, fun u => absurd (Int.le_refl _) u⟩
  · have e1 : ln1 L e w mk top y p f = lnA L e w (oth f top y) FU p (-1) 0 (fun _ => 0) := by unfold ln1; rw [if_neg (by rw [hmk, if_neg u]; omega)]
    rw [e1] at k1 k0
    rw [cb.2.2.1]
    refine ⟨by omega, fun u2 => absurd rfl u2, fun _ => m_inBy hS mc cb nv o01 hw hw1 hw2 (fun q r _ hr h2 m2 c2 n2 => ⟨rfl, m2.S, k1 q r hr h2 m2 c2 n2⟩) (fun hl h2 p2 m2 c2 => ⟨rfl, m2.S, k0 (hl.resolve_left (by omega)) h2 p2 m2 c2⟩)⟩
  · have e1 : ln1 L e w mk top y p f = (if p + 13 ≤ e ∧ bn L p 12 = 1 ∧ (y = top → bt L (p + 12) = 1) then (if bt L (p + 12) = 1 then lnI L e w FU (p + 13) 0 0 (fun _ => 0) else lnA L e w (oth f top y) FU (p + 13) (-1) 0 (fun _ => 0)) else none) := by unfold ln1; rw [if_pos (by rw [hmk, if_pos u])]
    have after : ∀ (h3 : fx_H) (r p3 z3 : Int), mo fN rF h h3 → mB h3 L p3 e z3 → (r = 0 ∨ r = 1) → (z3 = 0 → p + 13 ≤ e ∧ bn L p 12 = 1 ∧ r = bt L (p + 12) ∧ p3 = p + 13) → (¬ z3 = 0 → ¬ (p + 13 ≤ e ∧ bn L p 12 = 1)) → zR r ∧ ((¬ r = 1 → zR y ∧ zR top ∧ ((y ≤ top → fx_Mt l M_MO_need (0, 0) [.ref 31, .int (zI 0)] h3 (fun v h26 => ∃ r28 : Int, v = some (.int (zI r28)) ∧ h26.1 = h3.1 ∧ zR (h26.2.1 31 22) ∧ ((¬ (h26.2.1 31 22) = 0 → (fx_V l M_MO_inFax (0, 0) Q 0 0 149 [some (.ref 31), some (.int (zI top)), some (.int (zI n)), some (.int (zI y)), none, some (.int (zI 0))] [] h26)) ∧ ((h26.2.1 31 22) = 0 → fx_Mt l M_MO_inBy (0, 0) [.ref 31] h26 (fun v h31 => v = none ∧ h31.1 = h26.1 ∧ (fx_V l M_MO_inFax (0, 0) Q 0 0 149 [some (.ref 31), some (.int (zI top)), some (.int (zI n)), some (.int (zI y)), none, some (.int (zI 0))] [] h31)))))) ∧ (¬ (y ≤ top) → fx_Mt l M_MO_need (0, 0) [.ref 31, .int (zI 1)] h3 (fun v h33 => ∃ r35 : Int, v = some (.int (zI r35)) ∧ h33.1 = h3.1 ∧ zR (h33.2.1 31 22) ∧ ((¬ (h33.2.1 31 22) = 0 → (fx_V l M_MO_inFax (0, 0) Q 0 0 149 [some (.ref 31), some (.int (zI top)), some (.int (zI n)), some (.int (zI y)), none, some (.int (zI 0))] [] h33)) ∧ ((h33.2.1 31 22) = 0 → fx_Mt l M_MO_inBy (0, 0) [.ref 31] h33 (fun v h38 => v = none ∧ h38.1 = h33.1 ∧ (fx_V l M_MO_inFax (0, 0) Q 0 0 149 [some (.ref 31), some (.int (zI top)), some (.int (zI n)), some (.int (zI y)), none, some (.int (zI 0))] [] h38)))))))) ∧ (r = 1 → fx_Mt l M_MO_need (0, 0) [.ref 31, .int (zI 1)] h3 (fun v h40 => ∃ r42 : Int, v = some (.int (zI r42)) ∧ h40.1 = h3.1 ∧ fx_Mt l M_MO_inItself (0, 0) [.ref 31] h40 (fun v h43 => v = none ∧ h43.1 = h40.1 ∧ (fx_V l M_MO_inFax (0, 0) Q 0 0 149 [some (.ref 31), some (.int (zI top)), some (.int (zI n)), some (.int (zI y)), none, some (.int (zI 0))] [] h43))))) := by
      intro h3 r p3 z3 m3 c3 hr g3 l3
      have hz3 := c3.2.2.2.1
      have hS3 := m3.S.trans hS
      have bad : ¬ z3 = 0 → ln1 L e w mk top y p f = none := fun q => by rw [e1, if_neg (fun q2 => l3 q ⟨q2.1, q2.2.1⟩)]
      refine ⟨by omega, fun r9 => ⟨hy, htop, fun yt => ?_, fun yt => ?_⟩, fun r9 => ?_⟩
      · refine m_needF hS3 c3 fun h4 m4 c4 => ⟨_, rfl, m4.S, ?_⟩
        rw [c4.2.2.1]
        refine ⟨by omega, fun _ => k0 ?_ h4 _ (m3.tr m4).n36 c4, fun q => by omega⟩
        by_cases z30 : z3 = 0
        · obtain ⟨q1, q2, q3, q4⟩ := g3 z30
          rw [e1, if_neg (fun q => r9 (q3.trans (q.2.2 (by omega))))]
        · exact bad z30
      · refine m_needT hS3 c3 fun h4 m4 c4 => ⟨_, rfl, m4.S, ?_⟩
        have m34 := m3.tr m4
        rw [c4.2.2.1]
        refine ⟨by omega, fun q => ?_, fun q => ?_⟩
        · have z31 : z3 = 1 := by omega
          subst z31
          exact k0 (bad q) h4 _ m34.n36 c4
        · subst q
          obtain ⟨q1, q2, q3, rfl⟩ := g3 rfl
          rw [if_pos ⟨q1, q2, fun q => by omega⟩, if_neg (by omega)] at e1
          rw [e1] at k1 k0
          exact m_inBy (m34.S.trans hS) (mc.mo m34 (by omega)) c4 (nv.mo m34 (by omega)) o01 ((m34.2 15 (by omega)).trans hw) hw1 hw2 (fun q r _ hr h5 m5 c5 n5 => ⟨rfl, m5.S, k1 q r hr h5 (m34.n36.tr m5) c5 n5⟩) (fun hl h5 p5 m5 c5 => ⟨rfl, m5.S, k0 (hl.resolve_left (by omega)) h5 p5 (m34.n36.tr m5) c5⟩)
      · refine m_needT hS3 c3 fun h4 m4 c4 => ⟨_, rfl, m4.S, ?_⟩
        have m34 := m3.tr m4
        refine m_inItself (m34.S.trans hS) (mc.mo m34 (by omega)) c4 ((m34.2 15 (by omega)).trans hw) hw1 hw2 (fun q r2 z30 hr2 h5 m5 c5 n5 => ⟨rfl, m5.S, ?_⟩) (fun hl h5 p5 m5 c5 => ⟨rfl, m5.S, ?_⟩)
        · obtain ⟨q1, q2, q3, rfl⟩ := g3 z30
          rw [if_pos ⟨q1, q2, fun _ => by omega⟩, if_pos (by omega)] at e1
          exact k1 q r2 (e1.trans hr2) h5 (m34.n36.tr m5) c5 n5
        · refine k0 ?_ h5 p5 (m34.n36.tr m5) c5
          by_cases z30 : z3 = 0
          · obtain ⟨q1, q2, q3, rfl⟩ := g3 z30
            rw [if_pos ⟨q1, q2, fun _ => by omega⟩, if_pos (by omega)] at e1
            exact e1.trans (hl.resolve_left (by omega))
          · exact bad z30
    refine m_inBitsW (n := 12) hS cb (by omega) fun h2 r p2 z2 m2 c2 r0 r1 g2 l2 => ⟨_, rfl, m2.S, by omega, fun r9 => ?_, fun r9 => ?_⟩
    · refine m_needF (m2.S.trans hS) c2 fun h3 m3 c3 => ⟨_, rfl, m3.S, ?_⟩
      have m23 := m2.tr m3
      refine m_inBitW (m23.S.trans hS) c3 fun h4 r4 p4 z4 m4 c4 hr4 g4 l4 => ⟨_, rfl, m4.S, after h4 r4 p4 z4 (m23.tr m4) c4 hr4 (fun q => by have := (g4 q).1; omega) (fun _ => ?_)⟩
      intro q
      by_cases z20 : z2 = 0
      · obtain ⟨q1, q2, q3, q4⟩ := g2 z20
        exact r9 (q3.trans q.2)
      · rcases l2 z20 with q2 | q2
        · omega
        · omega
    · refine m_needT (m2.S.trans hS) c2 fun h3 m3 c3 => ⟨_, rfl, m3.S, ?_⟩
      have m23 := m2.tr m3
      refine m_inBitW (m23.S.trans hS) c3 fun h4 r4 p4 z4 m4 c4 hr4 g4 l4 => ⟨_, rfl, m4.S, after h4 r4 p4 z4 (m23.tr m4) c4 hr4 (fun q => ?_) (fun q q9 => ?_)⟩
      · obtain ⟨g1, g5, g6, g7⟩ := g4 q
        obtain ⟨q1, q2, q3, rfl⟩ := g2 g1
        have e12 : p + ((12 : Nat) : Int) = p + 12 := rfl
        rw [e12] at g5 g6 g7
        exact ⟨by omega, by rw [← q3]; exact r9, g6, by omega⟩
      · rcases l4 q with q2 | q2
        · rcases l2 (by omega) with q3 | q3
          · omega
          · omega
        · by_cases z20 : z2 = 0
          · obtain ⟨q1, q3, q4, rfl⟩ := g2 z20
            omega
          · rcases l2 z20 with q3 | q3
            · omega
            · omega
theorem m_inFax {top : Int} {n : Nat} (hS : h.1 = fx_S0 a pp dd) (mc : mC h) (cb : mB h L p e 0) (hw : h.2.1 31 15 = w) (hw1 : 1 ≤ w) (hw2 : w ≤ 40) (hsc : h.2.1 31 12 = sc) (hsc2 : sc = 3 ∨ sc = 4) (hmk : mk = if sc = 3 then 1 else 0) (ht0 : 0 ≤ top) (htn : top + n ≤ 24) (f01 : ∀ x y, f x y = 0 ∨ f x y = 1) (fneg : ∀ x, f x (-1) = 0) (mg : mG h w f top) (k1 : ∀ f2, fxO L e w mk top n p f = some f2 → ∀ h2 q, mo xR rF h h2 → mB h2 L q e 0 → mG h2 w f2 (top + n) → Q none h2) (k0 : fxO L e w mk top n p f = none → ∀ h2 p2, mo xR rF h h2 → mB h2 L p2 e 1 → Q none h2) : fx_Mt l M_MO_inFax (0, 0) [.ref 31, .int (zI top), .int (zI (n : Nat))] h Q := by
  refine e_MO_inFax hS ?_
  unfold fxO at k1 k0
  have scf : ∀ {h2 : fx_H}, mo xR rF h h2 → h2.2.1 31 12 = sc := fun m2 => (m2.2 12 (by omega)).trans hsc
  have wf : ∀ {h2 : fx_H}, mo xR rF h h2 → h2.2.1 31 15 = w := fun m2 => (m2.2 15 (by omega)).trans hw
  have toR : ∀ {h2 h3 : fx_H}, mo xR (fun k => k < 0) h2 h3 → mo xR rF h2 h3 := fun m => m.mono (fun j q => q) (fun k q => by omega)
  have loop : ∀ (m : Nat) (y p1 : Int) (f1 : Int → Int → Int) (h2 : fx_H), y + m = top + n → top ≤ y → (∀ x v, f1 x v = 0 ∨ f1 x v = 1) → (∀ x, f1 x (-1) = 0) → mo xR rF h h2 → mB h2 L p1 e 0 → mG h2 w f1 y → (top < y → mN h2 (fun i => f1 i (y - 1)) w) → fxS L e w mk top n p top f = fxS L e w mk top m p1 y f1 → fx_V l M_MO_inFax (0, 0) Q 0 0 2 [some (.ref 31), some (.int (zI top)), some (.int (zI (n : Nat))), some (.int (zI y)), none, none] [] h2 := by
    intro m
    induction m with
    | zero =>
      intro y p1 f1 h2 hy hty h01 hng m2 c2 g2 n2 er
      have hS2 := m2.S.trans hS
      rw [fxS_z] at er
      rw [er] at k1 k0
      have ey : y = top + n := by omega
      subst ey
      refine w_MO_inFax_2 hS2 ⟨by omega, by omega, fun _ => v_faxEnd hS2 c2 (scf m2) hsc2 hmk (fun _ hd h3 q m3 c3 => k1 f1 (opt_pos hd _) h3 q (m2.tr m3.fx) c3 (g2.mo m3 (by omega))) (fun hl h3 p3 m3 c3 => k0 (opt_neg (hl.resolve_left (by omega)) _) h3 p3 (m2.tr m3.fx) c3), fun u => absurd (Int.le_refl _) u⟩
    | succ m ih =>
      intro y p1 f1 h2 hy hty h01 hng m2 c2 g2 n2 er
      have hS2 := m2.S.trans hS
      rw [fxS_s] at er
      refine w_MO_inFax_2 hS2 ⟨by omega, by omega, fun u => by omega, fun _ => ?_⟩
      rw [c2.2.2.1]
      refine ⟨by omega, fun u => absurd rfl u, fun _ => ?_⟩
      refine v_above hS2 (wf m2) hw1 hw2 (by omega) (by omega) fun h3 m3 a3 b3 => ?_
      have m23 := m2.tr (toR m3)
      have hS3 := m23.S.trans hS
      have c3 : mB h3 L p1 e 0 := c2.mo m3 (by omega) (by omega) (by omega) (by omega)
      have nv : mV h3 (oth f1 top y) w := by
        intro i h1 h4
        show _ = f1 i (if y = top then -1 else y - 1)
        rw [a3 i h1 h4]
        by_cases yt : y = top
        · rw [if_pos yt, if_pos yt, hng]
        · rw [if_neg yt, if_neg yt]; exact n2 (by omega) i h1 h4
      refine v_line hS3 (mc.mo m23 (by omega)) c3 nv (fun i => h01 _ _) (wf m23) hw1 hw2 (scf m23) hsc2 hmk (by omega) (by omega) hty (fun q r hr h4 m4 c4 n4 => ?_) (fun hl h4 p4 m4 c4 => ?_)
      · have m24 := m23.tr m4.nx
        simp only [hr] at er
        refine v_fresh (m24.S.trans hS) c4 (wf m24) hw1 hw2 (by omega) (by omega) fun h5 m5 a5 b5 d5 => ?_
        refine ih (y + 1) q (row f1 y r) h5 (by omega) (by omega) (fun x v => ?_) (fun x => ?_) (m24.tr (toR m5)) (c4.mo m5 (by omega) (by omega) (by omega) (by omega)) (fun x v h1 h3x h4v h5v => ?_) (fun _ i h1 h6 => ?_) er
        · unfold row
          split
          · exact ln1_01 hr x
          · exact h01 x v
        · unfold row
          rw [if_neg (by omega)]; exact hng x
        · unfold row
          by_cases hv : v = y
          · subst hv
            rw [if_pos rfl, a5 x h1 h3x]; exact n4 x h1 h3x
          · rw [if_neg hv, b5 x v h1 h3x h4v (by omega)]
            rw [m4.1.2.2.1 34 _ (by omega), b3]
            exact g2 x v h1 h3x h4v (by omega)
        · show _ = row f1 y r i (y + 1 - 1)
          unfold row
          rw [if_pos (by omega), d5]; exact n4 i h1 h6
      · have m24 := m23.tr m4.nx
        simp only [hl] at er
        rw [er] at k0
        refine v_fresh (m24.S.trans hS) c4 (wf m24) hw1 hw2 (by omega) (by omega) fun h5 m5 a5 b5 d5 => ?_
        have m25 := m24.tr (toR m5)
        have hS5 := m25.S.trans hS
        have c5 : mB h5 L p4 e 1 := c4.mo m5 (by omega) (by omega) (by omega) (by omega)
        have fin := v_faxEnd hS5 c5 (scf m25) hsc2 hmk (Q := Q) (l := l) (fun u => by omega) (fun _ h6 p6 m6 c6 => k0 rfl h6 p6 (m25.tr m6.fx) c6)
        refine w_MO_inFax_2 hS5 ⟨by omega, by omega, fun _ => fin, fun _ => ?_⟩
        rw [c5.2.2.1]
        exact ⟨by omega, fun _ => fin, fun u => by omega⟩
  exact loop n top p f h rfl (by omega) f01 fneg mo.rf cb mg (fun u => by omega) rfl
end RN
