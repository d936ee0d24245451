/-! the reference's reading of lines -/
abbrev nA : Nat → Prop := fun j => j = 36
def sgn (i : Int) : Int := if i = 7 then 10 else if i = 8 then 11 else i - 3
section RM
variable {l : Launch} {Q : Option Value → fx_H → Prop} {h : fx_H} {a : Nat → Nat} {pp dd : Nat} {L : List Int} {b p e z : Int} {g w t : Int}
theorem m_needW {x : Int} (hS : h.1 = fx_S0 a pp dd) (c : mB h L p e z) (hx : x = 0 ∨ x = 1) (k : ∀ h2 z2, mo fN rF h h2 → mB h2 L p e z2 → (z2 = 0 ↔ z = 0 ∧ x = 1) → Q (some (.int (zI x))) h2) : fx_Mt l M_MO_need (0, 0) [.ref 31, .int (zI x)] h Q := by
  rcases hx with rfl | rfl
  · exact m_needF hS c fun h2 m2 c2 => k h2 1 m2 c2 (by omega)
  · exact m_needT hS c fun h2 m2 c2 => k h2 z m2 c2 (by omega)
/-- where the reading of a code stands -/
def ST (T L : List Int) (h0 h : fx_H) (p e z : Int) (m : Nat) (u : Int) : Prop := ∃ p1 z1, mo fN rF h0 h ∧ mB h L p1 e z1 ∧ ((z1 = 0 ∧ z = 0 ∧ rd T L e 13 1 p = rd T L e m u p1) ∨ (z1 = 1 ∧ (z = 1 ∨ rd T L e 13 1 p = none)))
def FO (T L : List Int) (h0 h : fx_H) (p e z : Int) (i : Int) : Prop := ∃ p1 z1, mo fN rF h0 h ∧ mB h L p1 e z1 ∧ ((z1 = 0 ∧ z = 0 ∧ rd T L e 13 1 p = some (i, p1)) ∨ (z1 = 1 ∧ (z = 1 ∨ rd T L e 13 1 p = none)))
theorem m_stepS {T : List Int} {h0 : fx_H} {m : Nat} {u : Int} (hS : h.1 = fx_S0 a pp dd) (s : ST T L h0 h p e z (m + 1) u) (k : ∀ r h2, (r = 0 ∨ r = 1) → h2.1 = h.1 → (idx T (2 * u + r) T.length < 0 → ST T L h0 h2 p e z m (2 * u + r)) → (¬ idx T (2 * u + r) T.length < 0 → FO T L h0 h2 p e z (idx T (2 * u + r) T.length)) → Q (some (.int (zI r))) h2) : fx_Mt l M_MO_inBit (0, 0) [.ref 31] h Q := by
  obtain ⟨p1, z1, m1, c1, st⟩ := s
  refine m_inBit hS c1 (fun w h2 m2 c2 => k _ h2 (bt_01 L p1) m2.S (fun hi => ⟨_, _, m1.tr m2, c2, ?_⟩) (fun hi => ⟨_, _, m1.tr m2, c2, ?_⟩)) (fun w h2 m2 c2 => k _ h2 (Or.inl rfl) m2.S (fun hi => ⟨_, _, m1.tr m2, c2, Or.inr ⟨rfl, ?_⟩⟩) (fun hi => ⟨_, _, m1.tr m2, c2, Or.inr ⟨rfl, ?_⟩⟩))
  · rcases st with ⟨s1, s2, s3⟩ | ⟨s1, s2⟩
    · refine Or.inl ⟨s1, s2, ?_⟩
      rw [s3, rd, if_pos w, if_pos hi]
    · exact Or.inr ⟨s1, s2⟩
  · rcases st with ⟨s1, s2, s3⟩ | ⟨s1, s2⟩
    · refine Or.inl ⟨s1, s2, ?_⟩
      rw [s3, rd, if_pos w, if_neg hi]
    · exact Or.inr ⟨s1, s2⟩
  all_goals
    rcases st with ⟨s1, s2, s3⟩ | ⟨s1, s2⟩
    · refine Or.inr ?_
      rw [s3, rd, if_neg (by omega)]
    · exact s2
theorem m_inSign (hS : h.1 = fx_S0 a pp dd) (cb : mB h L p e z) (k1 : ∀ i q, z = 0 → rd fx_tMD L e 13 1 p = some (i, q) → ∀ h2, mo fN rF h h2 → mB h2 L q e 0 → Q (some (.int (zI (sgn i)))) h2) (k0 : (z = 1 ∨ rd fx_tMD L e 13 1 p = none) → ∀ h2 r p2, mo fN rF h h2 → mB h2 L p2 e 1 → Q (some (.int (zI r))) h2) : fx_Mt l M_MO_inSign (0, 0) [.ref 31] h Q := by
  have hz := cb.2.2.2.1
  have s0 : ST fx_tMD L h h p e z 13 1 := ⟨p, z, mo.rf, cb, by rcases hz with z0 | z0; exact Or.inl ⟨z0, z0, rfl⟩; exact Or.inr ⟨z0, Or.inl z0⟩⟩
  have fin : ∀ (h2 : fx_H) (i r : Int), FO fx_tMD L h h2 p e z i → sgn i = r → Q (some (.int (zI r))) h2 := by
    rintro h2 i r ⟨p1, z1, m1, c1, st⟩ rfl
    rcases st with ⟨s1, s2, s3⟩ | ⟨s1, s2⟩
    · subst s1; exact k1 i p1 s2 s3 h2 m1 c1
    · subst s1; exact k0 s2 h2 _ p1 m1 c1
  have st : ∀ {h2 : fx_H} {m : Nat} {u : Int}, ST fx_tMD L h h2 p e z m u → h2.1 = fx_S0 a pp dd := by
    rintro h2 m u ⟨p1, z1, m1, -⟩; exact m1.S.trans hS
  refine e_MO_inSign hS (m_stepS hS s0 fun r h1 hr e1 sn fn => ⟨_, rfl, e1, by omega, fun w => ?_, fun w => ?_⟩)
  rotate_left
  · subst w; exact fin h1 3 _ (fn (by decide +kernel)) rfl
  have hr0 : r = 0 := by omega
  subst hr0
  have s1 := sn (by decide +kernel)
  refine m_stepS (st s1) s1 fun r h2 hr e1 sn fn => ⟨_, rfl, e1, by omega, fun w => ?_, fun w => ?_⟩
  rotate_left
  · subst w
    have s2 := sn (by decide +kernel)
    refine m_stepS (st s2) s2 fun r h3 hr e1 sn fn => ⟨_, rfl, e1, by omega, fun w => ?_, fun w => ?_⟩
    · have hr0 : r = 0 := by omega
      subst hr0; exact fin h3 2 _ (fn (by decide +kernel)) rfl
    · subst w; exact fin h3 4 _ (fn (by decide +kernel)) rfl
  have hr0 : r = 0 := by omega
  subst hr0
  have s2 := sn (by decide +kernel)
  refine m_stepS (st s2) s2 fun r h3 hr e1 sn fn => ⟨_, rfl, e1, by omega, fun w => ?_, fun w => ?_⟩
  rotate_left
  · subst w; exact fin h3 8 _ (fn (by decide +kernel)) rfl
  have hr0 : r = 0 := by omega
  subst hr0
  have s3 := sn (by decide +kernel)
  refine m_stepS (st s3) s3 fun r h4 hr e1 sn fn => ⟨_, rfl, e1, by omega, fun w => ?_, fun w => ?_⟩
  rotate_left
  · subst w; exact fin h4 7 _ (fn (by decide +kernel)) rfl
  have hr0 : r = 0 := by omega
  subst hr0
  have s4 := sn (by decide +kernel)
  refine m_stepS (st s4) s4 fun r h5 hr e1 sn fn => ⟨_, rfl, e1, by omega, fun w => ?_, fun w => ?_⟩
  rotate_left
  · subst w
    have s5 := sn (by decide +kernel)
    refine m_stepS (st s5) s5 fun r h6 hr e1 sn fn => ⟨_, rfl, e1, by omega, fun w => ?_, fun w => ?_⟩
    · have hr0 : r = 0 := by omega
      subst hr0; exact fin h6 1 _ (fn (by decide +kernel)) rfl
    · subst w; exact fin h6 5 _ (fn (by decide +kernel)) rfl
  have hr0 : r = 0 := by omega
  subst hr0
  have s5 := sn (by decide +kernel)
  have last : ∀ h7 : fx_H, ST fx_tMD L h h7 p e z 7 65 → fx_Mt l M_MO_inBit (0, 0) [.ref 31] h7 (fun v h34 => ∃ r36 : Int, v = some (.int (zI r36)) ∧ h34.1 = h7.1 ∧ zR r36 ∧ ((¬ r36 = 1 → Q (some (.int (zI (-3)))) h34) ∧ (r36 = 1 → Q (some (.int (zI 3))) h34))) := by
    intro h7 s7
    refine m_stepS (st s7) s7 fun r h8 hr e1 sn fn => ⟨_, rfl, e1, by omega, fun w => ?_, fun w => ?_⟩
    · have hr0 : r = 0 := by omega
      subst hr0; exact fin h8 0 _ (fn (by decide +kernel)) rfl
    · subst w; exact fin h8 6 _ (fn (by decide +kernel)) rfl
  refine m_stepS (st s5) s5 fun r h6 hr e1 sn fn => ⟨_, rfl, e1, by omega, fun w => ?_, fun w => ?_⟩
  · have hr0 : r = 0 := by omega
    subst hr0
    obtain ⟨p6, z6, m6, c6, t6⟩ := sn (by decide +kernel)
    refine m_needF (m6.S.trans hS) c6 fun h7 m7 c7 => ⟨_, rfl, m7.S, last h7 ⟨p6, 1, m6.tr m7, c7, Or.inr ⟨rfl, ?_⟩⟩⟩
    rcases t6 with ⟨s1, s2, s3⟩ | ⟨s1, s2⟩
    · refine Or.inr (s3.trans (rd_none _ _ _ ?_))
      have hd : ∀ i : Nat, i < 9 → ∀ k : Nat, k < 8 → ¬ fx_tMD.getD i 0 / 2 ^ k = 2 * 32 + 0 := by decide +kernel
      exact fun i hi k hk => hd i hi k hk
    · exact s2
  · subst w
    obtain ⟨p6, z6, m6, c6, t6⟩ := sn (by decide +kernel)
    exact m_needT (m6.S.trans hS) c6 fun h7 m7 c7 => ⟨_, rfl, m7.S, last h7 ⟨p6, z6, m6.tr m7, c7, t6⟩⟩
theorem mo.n36 {h h2 : fx_H} (m : mo fN rF h h2) : mo nA rF h h2 := m.mono (fun j q => by omega) (fun k q => q)
theorem m_paintM {x y c : Int} (hS : h.1 = fx_S0 a pp dd) (cb : mB h L p e z) (hw : h.2.1 31 15 = w) (hw0 : 0 ≤ w) (hw2 : w ≤ 40) (hx : 0 ≤ x) (hx2 : x ≤ 100) (hy : zR y) (k : ∀ h2 z2, mo nA rF h h2 → mB h2 L p e z2 → (z2 = 0 ↔ z = 0 ∧ y ≤ w) → (y ≤ w → ∀ i : Int, 0 ≤ i → h2.2.2.1 36 i.toNat = if x ≤ i ∧ i < y then c else h.2.2.1 36 i.toNat) → Q (some (.int (zI y))) h2) : fx_Mt l M_MO_paint (0, 0) [.ref 31, .int (zI x), .int (zI y), .int (zI c)] h Q := by
  refine e_MO_paint hS ?_
  rw [hw]
  refine ⟨hy, by omega, fun q => m_needF hS cb fun h2 m2 c2 => ⟨_, rfl, m2.S, by omega, fun _ => k h2 1 m2.n36 c2 (by omega) (fun q2 => by omega), fun q2 => absurd rfl q2⟩, fun q => m_needT hS cb fun h2 m2 c2 => ⟨_, rfl, m2.S, by omega, fun q2 => by omega, fun _ => ?_⟩⟩
  have a2 : ∀ i, h2.2.2.1 36 i = h.2.2.1 36 i := fun i => m2.1.2.2.1 36 i (by omega)
  by_cases hyx : y ≤ x
  · refine w_MO_paint_23 (m2.S.trans hS) ⟨by omega, hy, fun _ => k h2 z m2.n36 c2 (by omega) (fun _ i hi => ?_), fun q2 => absurd hyx q2⟩
    rw [if_neg (by omega), a2]
  have loop : ∀ (m : Nat) (x4 : Int) (h3 : fx_H), x ≤ x4 → x4 + m = y → mo nA rF h h3 → mB h3 L p e z → (∀ i : Int, 0 ≤ i → h3.2.2.1 36 i.toNat = if x ≤ i ∧ i < x4 then c else h.2.2.1 36 i.toNat) → fx_V l M_MO_paint (0, 0) Q 0 0 23 [some (.ref 31), none, some (.int (zI y)), some (.int (zI c)), some (.int (zI x4))] [] h3 := by
    intro m
    induction m with
    | zero =>
      intro x4 h3 h4 hm m3 c3 a3
      have h9 : x4 = y := by omega
      subst h9
      exact w_MO_paint_23 (m3.S.trans hS) ⟨by omega, hy, fun _ => k h3 z m3 c3 (by omega) (fun _ => a3), fun q2 => absurd (Int.le_refl _) q2⟩
    | succ m ih =>
      intro x4 h3 h4 hm m3 c3 a3
      have mu : mo nA (fun k => k < 0) h3 (fx_uA h3 36 x4.toNat c) := mo.uA rfl
      refine w_MO_paint_23 (m3.S.trans hS) ⟨by omega, hy, fun q2 => by omega, fun _ => ⟨by omega, by omega, ih (x4 + 1) _ (by omega) (by omega) (m3.tr (mu.mono (fun j q => q) (fun k q => by omega))) (c3.mo mu (by omega) (by omega) (by omega) (by omega)) fun i hi => ?_⟩⟩
      by_cases hix : i = x4
      · subst hix
        rw [uA_s, if_pos (by omega)]
      · rw [uA_n _ _ (by omega), a3 i hi]
        by_cases hq : x ≤ i ∧ i < x4
        · rw [if_pos hq, if_pos (by omega)]
        · rw [if_neg hq, if_neg (by omega)]
  exact loop (y - x).toNat x h2 (by omega) (by omega) m2.n36 c2 fun i hi => by rw [if_neg (by omega), a2]
theorem mN_pnt {h h2 : fx_H} {r : Int → Int} {x y c : Int} (n : mN h r x) (h3 : ∀ i : Int, 0 ≤ i → h2.2.2.1 36 i.toNat = if x ≤ i ∧ i < y then c else h.2.2.1 36 i.toNat) : mN h2 (pnt r x y c) y := by
  intro i hi hiy
  unfold pnt
  rw [h3 i hi]
  by_cases hq : x ≤ i ∧ i < y
  · rw [if_pos hq, if_pos hq]
  · rw [if_neg hq, if_neg hq]; exact n i hi (by omega)
theorem mN_pntE {h h2 : fx_H} {r : Int → Int} {x y x2 y2 c : Int} (n : mN h r x) (ex : x2 = x) (ey : y2 = y) (h3 : ∀ i : Int, 0 ≤ i → h2.2.2.1 36 i.toNat = if x2 ≤ i ∧ i < y2 then c else h.2.2.1 36 i.toNat) : mN h2 (pnt r x y c) y := by
  subst ex ey
  exact mN_pnt n h3
theorem m_inItself (hS : h.1 = fx_S0 a pp dd) (mc : mC h) (cb : mB h L p e z) (hw : h.2.1 31 15 = w) (hw1 : 1 ≤ w) (hw2 : w ≤ 40) (k1 : ∀ q r, z = 0 → lnI L e w FU p 0 0 (fun _ => 0) = some (q, r) → ∀ h2, mo nA rF h h2 → mB h2 L q e 0 → mN h2 r w → Q none h2) (k0 : (z = 1 ∨ lnI L e w FU p 0 0 (fun _ => 0) = none) → ∀ h2 p2, mo nA rF h h2 → mB h2 L p2 e 1 → Q none h2) : fx_Mt l M_MO_inItself (0, 0) [.ref 31] h Q := by
  have hz := cb.2.2.2.1
  have hel := cb.2.2.2.2.2.2.1
  have hln := cb.2.2.2.2.2.2.2.1
  have wf : ∀ {h2 : fx_H}, mo nA rF h h2 → h2.2.1 31 15 = w := fun m2 => (m2.2 15 (by omega)).trans hw
  refine e_MO_inItself hS ?_
  have stop : ∀ (h2 : fx_H) (x1 x2 p2 : Int), (z = 1 ∨ lnI L e w FU p 0 0 (fun _ => 0) = none) → zR x1 → mo nA rF h h2 → mB h2 L p2 e 1 → fx_V l M_MO_inItself (0, 0) Q 0 0 4 [some (.ref 31), some (.int (zI x1)), some (.int (zI x2))] [] h2 := by
    intro h2 x1 x2 p2 lost hx1 m2 c2
    refine w_MO_inItself_4 (m2.S.trans hS) ?_
    rw [wf m2, c2.2.2.1]
    exact ⟨hx1, by omega, fun _ => k0 lost h2 p2 m2 c2, fun _ => ⟨by omega, fun _ => k0 lost h2 p2 m2 c2, fun q => by omega⟩⟩
  by_cases z1 : z = 1
  · exact stop h 0 0 p (Or.inl z1) (by omega) mo.rf (z1 ▸ cb)
  have z0 : z = 0 := by omega
  subst z0
  have loop : ∀ (m : Nat) (x c p1 : Int) (r : Int → Int) (h2 : fx_H), e - p1 < m → 0 ≤ x → x ≤ w → (c = 0 ∨ c = 1) → mo nA rF h h2 → mB h2 L p1 e 0 → mN h2 r x → lnI L e w FU p 0 0 (fun _ => 0) = lnI L e w m p1 x c r → fx_V l M_MO_inItself (0, 0) Q 0 0 4 [some (.ref 31), some (.int (zI x)), some (.int (zI c))] [] h2 := by
    intro m
    induction m with
    | zero => intro x c p1 r h2 hm _ _ _ _ c2; have := c2.2.2.2.2.2.1; omega
    | succ m ih =>
      intro x c p1 r h2 hm hx0 hxw hc m2 c2 n2 er
      have hS2 := m2.S.trans hS
      rw [lnI_s] at er
      refine w_MO_inItself_4 hS2 ?_
      rw [wf m2, c2.2.2.1]
      refine ⟨by omega, by omega, fun q => ?_, fun q => ⟨by omega, fun q2 => by omega, fun _ => ?_⟩⟩
      · have hxw2 : x = w := by omega
        subst hxw2
        rw [if_pos q] at er
        exact k1 _ _ rfl er h2 m2 c2 n2
      · rw [if_neg q] at er
        refine m_inRun hS2 (mc.mo m2 (by omega)) hc c2 (fun i q2 _ hi h3 m3 c3 => ⟨_, rfl, m3.S, ?_⟩) (fun hi h3 i p3 m3 c3 i0 i1 => ⟨_, rfl, m3.S, ?_⟩)
        · have ir := rd_R hi
          rw [TC_len] at ir
          simp only [hi] at er
          have m23 := m2.tr m3.n36
          refine m_paintM (m23.S.trans hS) c3 (wf m23) (by omega) hw2 hx0 (by omega) (by omega) fun h4 z4 m4 c4 hz4 a4 => ⟨_, rfl, m4.S, ?_⟩
          by_cases hxi : x + i ≤ w
          · have z40 : z4 = 0 := hz4.mpr ⟨rfl, hxi⟩
            subst z40
            refine ih (x + i) (1 - c) q2 _ h4 (by omega) (by omega) hxi (by omega) (m23.tr m4) c4 (mN_pnt (n2.mo m3 (by omega)) (a4 hxi)) ?_
            rw [er, if_neg (by omega)]
          · have z41 : z4 = 1 := by have := c4.2.2.2.1; have := mt hz4.mp (fun u => hxi u.2); omega
            subst z41
            exact stop h4 _ _ _ (Or.inr (by rw [er, if_pos (by omega)])) (by omega) (m23.tr m4) c4
        · have m23 := m2.tr m3.n36
          have lost : lnI L e w FU p 0 0 (fun _ => 0) = none := by
            rcases hi with hi | hi
            · omega
            · simp only [er, hi]
          refine m_paintM (m23.S.trans hS) c3 (wf m23) (by omega) hw2 hx0 (by omega) (by omega) fun h4 z4 m4 c4 hz4 a4 => ⟨_, rfl, m4.S, ?_⟩
          have z41 : z4 = 1 := by have := c4.2.2.2.1; have := mt hz4.mp (fun u => by omega); omega
          subst z41
          exact stop h4 _ _ _ (Or.inr lost) (by omega) (m23.tr m4) c4
  exact loop FU 0 0 p _ h (FU_16 hel hln cb.2.2.2.2.1) (by omega) (by omega) (Or.inl rfl) mo.rf cb (fun i h1 h2 => by omega) rfl
theorem m_inBy {o : Int → Int} (hS : h.1 = fx_S0 a pp dd) (mc : mC h) (cb : mB h L p e z) (nv : mV h o w) (o01 : ∀ i, o i = 0 ∨ o i = 1) (hw : h.2.1 31 15 = w) (hw1 : 1 ≤ w) (hw2 : w ≤ 40) (k1 : ∀ q r, z = 0 → lnA L e w o FU p (-1) 0 (fun _ => 0) = some (q, r) → ∀ h2, mo nA rF h h2 → mB h2 L q e 0 → mN h2 r w → Q none h2) (k0 : (z = 1 ∨ lnA L e w o FU p (-1) 0 (fun _ => 0) = none) → ∀ h2 p2, mo nA rF h h2 → mB h2 L p2 e 1 → Q none h2) : fx_Mt l M_MO_inBy (0, 0) [.ref 31] h Q := by
  have hz := cb.2.2.2.1
  have hel := cb.2.2.2.2.2.2.1
  have hln := cb.2.2.2.2.2.2.2.1
  have wf : ∀ {h2 : fx_H}, mo nA rF h h2 → h2.2.1 31 15 = w := fun m2 => (m2.2 15 (by omega)).trans hw
  refine e_MO_inBy hS ?_
  have stop : ∀ (h2 : fx_H) (x1 x2 p2 : Int), (z = 1 ∨ lnA L e w o FU p (-1) 0 (fun _ => 0) = none) → zR x1 → mo nA rF h h2 → mB h2 L p2 e 1 → fx_V l M_MO_inBy (0, 0) Q 0 0 4 [some (.ref 31), some (.int (zI x1)), some (.int (zI x2)), none, none, none, none, none, none] [] h2 := by
    intro h2 x1 x2 p2 lost hx1 m2 c2
    refine w_MO_inBy_4 (m2.S.trans hS) ?_
    rw [wf m2, c2.2.2.1]
    exact ⟨hx1, by omega, fun _ => k0 lost h2 p2 m2 c2, fun _ => ⟨by omega, fun _ => k0 lost h2 p2 m2 c2, fun q => by omega⟩⟩
  by_cases z1 : z = 1
  · exact stop h _ 0 p (Or.inl z1) (by omega) mo.rf (z1 ▸ cb)
  have z0 : z = 0 := by omega
  subst z0
  have loop : ∀ (m : Nat) (A c p1 : Int) (r : Int → Int) (h2 : fx_H), e - p1 < m → -1 ≤ A → A ≤ w → (c = 0 ∨ c = 1) → mo nA rF h h2 → mB h2 L p1 e 0 → mN h2 r (mx A) → lnA L e w o FU p (-1) 0 (fun _ => 0) = lnA L e w o m p1 A c r → fx_V l M_MO_inBy (0, 0) Q 0 0 4 [some (.ref 31), some (.int (zI A)), some (.int (zI c)), none, none, none, none, none, none] [] h2 := by
    intro m
    induction m with
    | zero => intro A c p1 r h2 hm _ _ _ _ c2; have := c2.2.2.2.2.2.1; omega
    | succ m ih =>
      intro A c p1 r h2 hm hA0 hAw hc m2 c2 n2 er
      have hS2 := m2.S.trans hS
      have mr := mx_R A hA0
      rw [lnA_s] at er
      refine w_MO_inBy_4 hS2 ?_
      rw [wf m2, c2.2.2.1]
      refine ⟨by omega, by omega, fun q => ?_, fun q => ⟨by omega, fun q2 => by omega, fun _ => ?_⟩⟩
      · have hxw2 : A = w := by omega
        subst hxw2
        rw [if_pos q] at er
        rw [mx_nn (by omega)] at n2
        exact k1 _ _ rfl er h2 m2 c2 n2
      rw [if_neg q] at er
      have b1 := fC_R (r := o) (c := c) (show A + 1 ≤ w by omega)
      have b2 := fA_R (r := o) (c := c) b1.2
      have nv2 : mV h2 o w := nv.mo m2 (by omega)
      -- a run that stays in the row
      have nextP : ∀ (h3 : fx_H) (fr y c2 p3 : Int), fr = mx A → mo nA rF h h3 → mB h3 L p3 e 0 → mN h3 r (mx A) → e - p3 < m → A < y → y ≤ w → (c2 = 0 ∨ c2 = 1) → lnA L e w o FU p (-1) 0 (fun _ => 0) = lnA L e w o m p3 y c2 (pnt r (mx A) y c) → fx_Mt l M_MO_paint (0, 0) [.ref 31, .int (zI fr), .int (zI y), .int (zI c)] h3 (fun v h26 => ∃ r28 : Int, v = some (.int (zI r28)) ∧ h26.1 = h3.1 ∧ (fx_V l M_MO_inBy (0, 0) Q 0 0 4 [some (.ref 31), some (.int (zI r28)), some (.int (zI c2)), none, none, none, none, none, none] [] h26)) := by
        intro h3 fr y c9 p3 hfr m3 c3 n3 hm3 hAy hyw hc9 e3
        refine m_paintM (m3.S.trans hS) c3 (wf m3) (by omega) hw2 (by omega) (by omega) (by omega) fun h4 z4 m4 c4 hz4 a4 => ⟨_, rfl, m4.S, ?_⟩
        have z40 : z4 = 0 := hz4.mpr ⟨rfl, hyw⟩
        subst z40
        rw [hfr] at a4
        refine ih y c9 p3 _ h4 hm3 (by omega) hyw hc9 (m3.tr m4) c4 ?_ e3
        rw [mx_nn (a := y) (by omega)]
        exact mN_pnt n3 (a4 hyw)
      have lostP : ∀ (h3 : fx_H) (fr y c8 c9 p3 z3 : Int), fr = mx A → mo nA rF h h3 → mB h3 L p3 e z3 → (z3 = 1 ∨ w < y) → zR y → lnA L e w o FU p (-1) 0 (fun _ => 0) = none → fx_Mt l M_MO_paint (0, 0) [.ref 31, .int (zI fr), .int (zI y), .int (zI c8)] h3 (fun v h26 => ∃ r28 : Int, v = some (.int (zI r28)) ∧ h26.1 = h3.1 ∧ (fx_V l M_MO_inBy (0, 0) Q 0 0 4 [some (.ref 31), some (.int (zI r28)), some (.int (zI c9)), none, none, none, none, none, none] [] h26)) := by
        intro h3 fr y c8 c9 p3 z3 hfr m3 c3 hz3 hyR e3
        refine m_paintM (m3.S.trans hS) c3 (wf m3) (by omega) hw2 (by omega) (by omega) hyR fun h4 z4 m4 c4 hz4 a4 => ⟨_, rfl, m4.S, ?_⟩
        have z41 : z4 = 1 := by have := c4.2.2.2.1; have := mt hz4.mp (fun u => by omega); omega
        subst z41
        exact stop h4 _ _ _ (Or.inr e3) hyR (m3.tr m4) c4
      refine ⟨fun u => ?_, fun u => ?_⟩
      · have efr : A = mx A := by unfold mx; split <;> omega
        refine m_changeAbove hS2 (wf m2) hw2 nv2 o01 hA0 (by omega) (by omega) ⟨_, rfl, rfl, ?_⟩
        refine m_changeBack hS2 (wf m2) hw2 nv2 o01 (by omega) b1.2 (by omega) ⟨_, rfl, rfl, ?_⟩
        refine m_inSign hS2 c2 (fun k9 q2 _ hi h3 m3 c3 => ⟨_, rfl, m3.S, ?_⟩) (fun hi h3 i p3 m3 c3 => ⟨_, rfl, m3.S, ?_⟩)
        · have ir := rd_R hi
          have ir9 : k9 < 9 := ir.2.1
          have m23 := m2.tr m3.n36
          have hS3 := m23.S.trans hS
          have n3 : mN h3 r (mx A) := n2.mo m3 (by omega)
          simp only [hi] at er
          rw [c3.2.2.1, wf m23]
          refine ⟨by omega, fun _ => ⟨by unfold sgn; split <;> (try split) <;> omega, fun s10 => ⟨fun s11 => ?_, fun s11 => ?_⟩, fun s10 => ?_⟩, fun u => absurd rfl u⟩
          · have k7 : ¬ k9 = 7 := fun u => s10 (by rw [u]; rfl)
            have k8 : ¬ k9 = 8 := fun u => s11 (by rw [u]; rfl)
            have es : sgn k9 = k9 - 3 := by unfold sgn; rw [if_neg k7, if_neg k8]
            have es2 : fC o w (A + 1) c + (k9 - 3) = fC o w (A + 1) c + k9 - 3 := by omega
            rw [if_neg k8, if_neg k7] at er
            rw [es, es2]
            refine ⟨by omega, fun u => m_needF hS3 c3 fun h4 m4 c4 => ⟨_, rfl, m4.S, ?_⟩, fun u => m_needT hS3 c3 fun h4 m4 c4 => ⟨_, rfl, m4.S, ?_⟩⟩
            · exact lostP h4 _ _ _ _ _ 1 efr (m23.tr m4.n36) c4 (Or.inl rfl) (by omega) (by rw [er, if_neg (by omega)])
            · by_cases u2 : fC o w (A + 1) c + k9 - 3 ≤ w
              · exact nextP h4 _ _ _ _ efr (m23.tr m4.n36) c4 (n3.mo m4 (by omega)) (by omega) (by omega) u2 (by omega) (by rw [er, if_pos ⟨by omega, u2⟩])
              · exact lostP h4 _ _ _ _ _ 0 efr (m23.tr m4.n36) c4 (Or.inr (by omega)) (by omega) (by rw [er, if_neg (by omega)])
          · have k8 : k9 = 8 := by unfold sgn at s11; split at s11 <;> (try split at s11) <;> omega
            rw [if_pos k8] at er
            refine m_inRun hS3 (mc.mo m23 (by omega)) hc c3 (fun n1 q3 _ h1 h4 m4 c4 => ⟨_, rfl, m4.S, ?_⟩) (fun h1 h4 n1 p4 m4 c4 i0 i1 => ⟨_, rfl, m4.S, ?_⟩)
            · have r1 := rd_R h1
              rw [TC_len] at r1
              have m24 := m23.tr m4.n36
              refine m_inRun (m24.S.trans hS) (mc.mo m24 (by omega)) (by omega) c4 (fun n9 q4 _ h2r h5 m5 c5 => ⟨_, rfl, m5.S, ?_⟩) (fun h2r h5 n9 p5 m5 c5 i0 i1 => ⟨_, rfl, m5.S, ?_⟩)
              · have r2 := rd_R h2r
                rw [TC_len] at r2
                have m25 := m24.tr m5.n36
                have hS5 := m25.S.trans hS
                refine ⟨by omega, fun u => m_needF hS5 c5 fun h6 m6 c6 => ⟨_, rfl, m6.S, ?_⟩, fun u => m_needT hS5 c5 fun h6 m6 c6 => ⟨_, rfl, m6.S, ?_⟩⟩
                · rw [c6.2.2.1]
                  refine ⟨by omega, fun _ => stop h6 _ _ _ (Or.inr ?_) (by omega) (m25.tr m6.n36) c6, fun u2 => by omega⟩
                  have e2 : two L e c q2 = none := by unfold two; simp only [h1, h2r]; rw [if_pos (by omega)]
                  simp only [er, e2]
                · rw [c6.2.2.1]
                  refine ⟨by omega, fun u2 => absurd rfl u2, fun _ => ?_⟩
                  have e2 : two L e c q2 = some (n1, n9, q4) := by unfold two; simp only [h1, h2r]; rw [if_neg (by omega)]
                  simp only [e2] at er
                  have m26 := m25.tr m6.n36
                  have n6 : mN h6 r (mx A) := ((n3.mo m4 (by omega)).mo m5 (by omega)).mo m6 (by omega)
                  have efr2 : A + n1 = mx A + n1 := by omega
                  refine m_paintM (m26.S.trans hS) c6 (wf m26) (by omega) hw2 (by omega) (by omega) (by omega) fun h7 z7 m7 c7 hz7 a7 => ⟨_, rfl, m7.S, ?_⟩
                  have m27 := m26.tr m7
                  by_cases u2 : A + n1 ≤ w
                  · have z70 : z7 = 0 := hz7.mpr ⟨rfl, u2⟩
                    subst z70
                    have n7 : mN h7 (pnt r (mx A) (mx A + n1) c) (mx A + n1) := mN_pntE n6 efr efr2 (a7 u2)
                    refine m_paintM (m27.S.trans hS) c7 (wf m27) (by omega) hw2 (by omega) (by omega) (by omega) fun h8 z8 m8 c8 hz8 a8 => ⟨_, rfl, m8.S, ?_⟩
                    by_cases u3 : A + n1 + n9 ≤ w
                    · have z80 : z8 = 0 := hz8.mpr ⟨rfl, u3⟩
                      subst z80
                      have ey : A + n1 + n9 = mx A + n1 + n9 := by omega
                      refine ih _ c q4 (pnt (pnt r (mx A) (mx A + n1) c) (mx A + n1) (mx A + n1 + n9) (1 - c)) h8 (by omega) (by omega) u3 hc (m27.tr m8) c8 ?_ ?_
                      · rw [ey, mx_nn (a := mx A + n1 + n9) (by omega)]
                        exact mN_pntE n7 efr2 ey (a8 u3)
                      · rw [er, if_neg (by omega), ey]
                    · have z81 : z8 = 1 := by have := c8.2.2.2.1; have := mt hz8.mp (fun u => u3 u.2); omega
                      subst z81
                      exact stop h8 _ _ _ (Or.inr (by rw [er, if_pos (by omega)])) (by omega) (m27.tr m8) c8
                  · have z71 : z7 = 1 := by have := c7.2.2.2.1; have := mt hz7.mp (fun u => u2 u.2); omega
                    subst z71
                    refine m_paintM (m27.S.trans hS) c7 (wf m27) (by omega) hw2 (by omega) (by omega) (by omega) fun h8 z8 m8 c8 hz8 a8 => ⟨_, rfl, m8.S, ?_⟩
                    have z81 : z8 = 1 := by have := c8.2.2.2.1; have := mt hz8.mp (fun u => by omega); omega
                    subst z81
                    exact stop h8 _ _ _ (Or.inr (by rw [er, if_pos (by omega)])) (by omega) (m27.tr m8) c8
              · have m25 := m24.tr m5.n36
                have hS5 := m25.S.trans hS
                have e2 : two L e c q2 = none := by
                  rcases h2r with h2r | h2r
                  · omega
                  · unfold two; simp only [h1, h2r]
                simp only [e2] at er
                refine ⟨by omega, fun u => m_needF hS5 c5 fun h6 m6 c6 => ⟨_, rfl, m6.S, ?_⟩, fun u => m_needT hS5 c5 fun h6 m6 c6 => ⟨_, rfl, m6.S, ?_⟩⟩
                all_goals
                  rw [c6.2.2.1]
                  exact ⟨by omega, fun _ => stop h6 _ _ _ (Or.inr er) (by omega) (m25.tr m6.n36) c6, fun u2 => by omega⟩
            · have m24 := m23.tr m4.n36
              have e2 : two L e c q2 = none := by
                rcases h1 with h1 | h1
                · omega
                · unfold two; simp only [h1]
              simp only [e2] at er
              refine m_inRun (m24.S.trans hS) (mc.mo m24 (by omega)) (by omega) c4 (fun n9 q4 u h2r h5 m5 c5 => by omega) (fun h2r h5 n9 p5 m5 c5 j0 j1 => ⟨_, rfl, m5.S, ?_⟩)
              have m25 := m24.tr m5.n36
              have hS5 := m25.S.trans hS
              refine ⟨by omega, fun u => m_needF hS5 c5 fun h6 m6 c6 => ⟨_, rfl, m6.S, ?_⟩, fun u => m_needT hS5 c5 fun h6 m6 c6 => ⟨_, rfl, m6.S, ?_⟩⟩
              all_goals
                rw [c6.2.2.1]
                exact ⟨by omega, fun _ => stop h6 _ _ _ (Or.inr er) (by omega) (m25.tr m6.n36) c6, fun u2 => by omega⟩
          · have k7 : k9 = 7 := by unfold sgn at s10; split at s10 <;> (try split at s10) <;> omega
            rw [if_neg (by omega), if_pos k7] at er
            refine ⟨by omega, by omega, fun u => m_needF hS3 c3 fun h4 m4 c4 => ⟨_, rfl, m4.S, ?_⟩, fun u => m_needT hS3 c3 fun h4 m4 c4 => ⟨_, rfl, m4.S, ?_⟩⟩
            · exact lostP h4 _ _ _ _ _ 1 efr (m23.tr m4.n36) c4 (Or.inl rfl) (by omega) (by rw [er, if_neg (by omega)])
            · exact nextP h4 _ _ _ _ efr (m23.tr m4.n36) c4 (n3.mo m4 (by omega)) (by omega) (by omega) (by omega) hc (by rw [er, if_pos (by omega)])
        · have m23 := m2.tr m3.n36
          have lost : lnA L e w o FU p (-1) 0 (fun _ => 0) = none := by
            rcases hi with hi | hi
            · omega
            · simp only [er, hi]
          rw [c3.2.2.1]
          exact ⟨by omega, fun u => by omega, fun _ => k0 (Or.inr lost) h3 _ m23 c3⟩
      · have efr : 0 = mx A := by unfold mx; split <;> omega
        refine m_changeAbove hS2 (wf m2) hw2 nv2 o01 hA0 (by omega) (by omega) ⟨_, rfl, rfl, ?_⟩
        refine m_changeBack hS2 (wf m2) hw2 nv2 o01 (by omega) b1.2 (by omega) ⟨_, rfl, rfl, ?_⟩
        refine m_inSign hS2 c2 (fun k9 q2 _ hi h3 m3 c3 => ⟨_, rfl, m3.S, ?_⟩) (fun hi h3 i p3 m3 c3 => ⟨_, rfl, m3.S, ?_⟩)
        · have ir := rd_R hi
          have ir9 : k9 < 9 := ir.2.1
          have m23 := m2.tr m3.n36
          have hS3 := m23.S.trans hS
          have n3 : mN h3 r (mx A) := n2.mo m3 (by omega)
          simp only [hi] at er
          rw [c3.2.2.1, wf m23]
          refine ⟨by omega, fun _ => ⟨by unfold sgn; split <;> (try split) <;> omega, fun s10 => ⟨fun s11 => ?_, fun s11 => ?_⟩, fun s10 => ?_⟩, fun u => absurd rfl u⟩
          · have k7 : ¬ k9 = 7 := fun u => s10 (by rw [u]; rfl)
            have k8 : ¬ k9 = 8 := fun u => s11 (by rw [u]; rfl)
            have es : sgn k9 = k9 - 3 := by unfold sgn; rw [if_neg k7, if_neg k8]
            have es2 : fC o w (A + 1) c + (k9 - 3) = fC o w (A + 1) c + k9 - 3 := by omega
            rw [if_neg k8, if_neg k7] at er
            rw [es, es2]
            refine ⟨by omega, fun u => m_needF hS3 c3 fun h4 m4 c4 => ⟨_, rfl, m4.S, ?_⟩, fun u => m_needT hS3 c3 fun h4 m4 c4 => ⟨_, rfl, m4.S, ?_⟩⟩
            · exact lostP h4 _ _ _ _ _ 1 efr (m23.tr m4.n36) c4 (Or.inl rfl) (by omega) (by rw [er, if_neg (by omega)])
            · by_cases u2 : fC o w (A + 1) c + k9 - 3 ≤ w
              · exact nextP h4 _ _ _ _ efr (m23.tr m4.n36) c4 (n3.mo m4 (by omega)) (by omega) (by omega) u2 (by omega) (by rw [er, if_pos ⟨by omega, u2⟩])
              · exact lostP h4 _ _ _ _ _ 0 efr (m23.tr m4.n36) c4 (Or.inr (by omega)) (by omega) (by rw [er, if_neg (by omega)])
          · have k8 : k9 = 8 := by unfold sgn at s11; split at s11 <;> (try split at s11) <;> omega
            rw [if_pos k8] at er
            refine m_inRun hS3 (mc.mo m23 (by omega)) hc c3 (fun n1 q3 _ h1 h4 m4 c4 => ⟨_, rfl, m4.S, ?_⟩) (fun h1 h4 n1 p4 m4 c4 i0 i1 => ⟨_, rfl, m4.S, ?_⟩)
            · have r1 := rd_R h1
              rw [TC_len] at r1
              have m24 := m23.tr m4.n36
              refine m_inRun (m24.S.trans hS) (mc.mo m24 (by omega)) (by omega) c4 (fun n9 q4 _ h2r h5 m5 c5 => ⟨_, rfl, m5.S, ?_⟩) (fun h2r h5 n9 p5 m5 c5 i0 i1 => ⟨_, rfl, m5.S, ?_⟩)
              · have r2 := rd_R h2r
                rw [TC_len] at r2
                have m25 := m24.tr m5.n36
                have hS5 := m25.S.trans hS
                refine ⟨by omega, fun u => m_needF hS5 c5 fun h6 m6 c6 => ⟨_, rfl, m6.S, ?_⟩, fun u => m_needT hS5 c5 fun h6 m6 c6 => ⟨_, rfl, m6.S, ?_⟩⟩
                · rw [c6.2.2.1]
                  refine ⟨by omega, fun _ => stop h6 _ _ _ (Or.inr ?_) (by omega) (m25.tr m6.n36) c6, fun u2 => by omega⟩
                  have e2 : two L e c q2 = none := by unfold two; simp only [h1, h2r]; rw [if_pos (by omega)]
                  simp only [er, e2]
                · rw [c6.2.2.1]
                  refine ⟨by omega, fun u2 => absurd rfl u2, fun _ => ?_⟩
                  have e2 : two L e c q2 = some (n1, n9, q4) := by unfold two; simp only [h1, h2r]; rw [if_neg (by omega)]
                  simp only [e2] at er
                  have m26 := m25.tr m6.n36
                  have n6 : mN h6 r (mx A) := ((n3.mo m4 (by omega)).mo m5 (by omega)).mo m6 (by omega)
                  have efr2 : 0 + n1 = mx A + n1 := by omega
                  refine m_paintM (m26.S.trans hS) c6 (wf m26) (by omega) hw2 (by omega) (by omega) (by omega) fun h7 z7 m7 c7 hz7 a7 => ⟨_, rfl, m7.S, ?_⟩
                  have m27 := m26.tr m7
                  by_cases u2 : 0 + n1 ≤ w
                  · have z70 : z7 = 0 := hz7.mpr ⟨rfl, u2⟩
                    subst z70
                    have n7 : mN h7 (pnt r (mx A) (mx A + n1) c) (mx A + n1) := mN_pntE n6 efr efr2 (a7 u2)
                    refine m_paintM (m27.S.trans hS) c7 (wf m27) (by omega) hw2 (by omega) (by omega) (by omega) fun h8 z8 m8 c8 hz8 a8 => ⟨_, rfl, m8.S, ?_⟩
                    by_cases u3 : 0 + n1 + n9 ≤ w
                    · have z80 : z8 = 0 := hz8.mpr ⟨rfl, u3⟩
                      subst z80
                      have ey : 0 + n1 + n9 = mx A + n1 + n9 := by omega
                      refine ih _ c q4 (pnt (pnt r (mx A) (mx A + n1) c) (mx A + n1) (mx A + n1 + n9) (1 - c)) h8 (by omega) (by omega) u3 hc (m27.tr m8) c8 ?_ ?_
                      · rw [ey, mx_nn (a := mx A + n1 + n9) (by omega)]
                        exact mN_pntE n7 efr2 ey (a8 u3)
                      · rw [er, if_neg (by omega), ey]
                    · have z81 : z8 = 1 := by have := c8.2.2.2.1; have := mt hz8.mp (fun u => u3 u.2); omega
                      subst z81
                      exact stop h8 _ _ _ (Or.inr (by rw [er, if_pos (by omega)])) (by omega) (m27.tr m8) c8
                  · have z71 : z7 = 1 := by have := c7.2.2.2.1; have := mt hz7.mp (fun u => u2 u.2); omega
                    subst z71
                    refine m_paintM (m27.S.trans hS) c7 (wf m27) (by omega) hw2 (by omega) (by omega) (by omega) fun h8 z8 m8 c8 hz8 a8 => ⟨_, rfl, m8.S, ?_⟩
                    have z81 : z8 = 1 := by have := c8.2.2.2.1; have := mt hz8.mp (fun u => by omega); omega
                    subst z81
                    exact stop h8 _ _ _ (Or.inr (by rw [er, if_pos (by omega)])) (by omega) (m27.tr m8) c8
              · have m25 := m24.tr m5.n36
                have hS5 := m25.S.trans hS
                have e2 : two L e c q2 = none := by
                  rcases h2r with h2r | h2r
                  · omega
                  · unfold two; simp only [h1, h2r]
                simp only [e2] at er
                refine ⟨by omega, fun u => m_needF hS5 c5 fun h6 m6 c6 => ⟨_, rfl, m6.S, ?_⟩, fun u => m_needT hS5 c5 fun h6 m6 c6 => ⟨_, rfl, m6.S, ?_⟩⟩
                all_goals
                  rw [c6.2.2.1]
                  exact ⟨by omega, fun _ => stop h6 _ _ _ (Or.inr er) (by omega) (m25.tr m6.n36) c6, fun u2 => by omega⟩
            · have m24 := m23.tr m4.n36
              have e2 : two L e c q2 = none := by
                rcases h1 with h1 | h1
                · omega
                · unfold two; simp only [h1]
              simp only [e2] at er
              refine m_inRun (m24.S.trans hS) (mc.mo m24 (by omega)) (by omega) c4 (fun n9 q4 u h2r h5 m5 c5 => by omega) (fun h2r h5 n9 p5 m5 c5 j0 j1 => ⟨_, rfl, m5.S, ?_⟩)
              have m25 := m24.tr m5.n36
              have hS5 := m25.S.trans hS
              refine ⟨by omega, fun u => m_needF hS5 c5 fun h6 m6 c6 => ⟨_, rfl, m6.S, ?_⟩, fun u => m_needT hS5 c5 fun h6 m6 c6 => ⟨_, rfl, m6.S, ?_⟩⟩
              all_goals
                rw [c6.2.2.1]
                exact ⟨by omega, fun _ => stop h6 _ _ _ (Or.inr er) (by omega) (m25.tr m6.n36) c6, fun u2 => by omega⟩
          · have k7 : k9 = 7 := by unfold sgn at s10; split at s10 <;> (try split at s10) <;> omega
            rw [if_neg (by omega), if_pos k7] at er
            refine ⟨by omega, by omega, fun u => m_needF hS3 c3 fun h4 m4 c4 => ⟨_, rfl, m4.S, ?_⟩, fun u => m_needT hS3 c3 fun h4 m4 c4 => ⟨_, rfl, m4.S, ?_⟩⟩
            · exact lostP h4 _ _ _ _ _ 1 efr (m23.tr m4.n36) c4 (Or.inl rfl) (by omega) (by rw [er, if_neg (by omega)])
            · exact nextP h4 _ _ _ _ efr (m23.tr m4.n36) c4 (n3.mo m4 (by omega)) (by omega) (by omega) (by omega) hc (by rw [er, if_pos (by omega)])
        · have m23 := m2.tr m3.n36
          have lost : lnA L e w o FU p (-1) 0 (fun _ => 0) = none := by
            rcases hi with hi | hi
            · omega
            · simp only [er, hi]
          rw [c3.2.2.1]
          exact ⟨by omega, fun u => by omega, fun _ => k0 (Or.inr lost) h3 _ m23 c3⟩
  exact loop FU (-1) 0 p _ h (FU_16 hel hln cb.2.2.2.2.1) (by omega) (by omega) (Or.inl rfl) mo.rf cb (fun i h1 h2 => by unfold mx at h2; rw [if_pos (by omega)] at h2; omega) rfl
end RM
