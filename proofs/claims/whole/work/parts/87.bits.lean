/-! the bits of a file, on both sides -/
def bt (L : List Int) (p : Int) : Int := fp_bit (bya L (p / 8)) (p % 8)
def bn (L : List Int) (p : Int) (n : Nat) : Int := fp_bits (bt L) p n
theorem bt_01 (L : List Int) (p : Int) : bt L p = 0 ∨ bt L p = 1 := by unfold bt fp_bit; omega
theorem bn_R (L : List Int) (p : Int) (n : Nat) : 0 ≤ bn L p n ∧ bn L p n < 2 ^ n := fp_bits_R (bt_01 L) p n
theorem bn_s (L : List Int) (p : Int) (n : Nat) : bn L p (n + 1) = 2 * bn L p n + bt L (p + n) := rfl
theorem bn_z (L : List Int) (p : Int) : bn L p 0 = 0 := rfl
theorem p2_le {k m : Nat} (h : k ≤ m) : (2 : Int) ^ k ≤ 2 ^ m := by
  have : (2 : Int) ^ m = 2 ^ k * 2 ^ (m - k) := by rw [← Int.pow_add]; congr 1; omega
  have := two_pow_pos (m - k)
  have := two_pow_pos k
  have h5 : (2 : Int) ^ k * 1 ≤ 2 ^ k * 2 ^ (m - k) := Int.mul_le_mul_of_nonneg_left (by omega) (by omega)
  omega
theorem bn_lt (L : List Int) (p : Int) {n m : Nat} (h : n ≤ m) : bn L p n < 2 ^ m := by
  have := bn_R L p n
  have := p2_le h
  omega
theorem bn_0 (L : List Int) (p : Int) : ∀ n : Nat, bn L p n = 0 ↔ ∀ i : Nat, i < n → bt L (p + i) = 0
  | 0 => ⟨fun _ i hi => by omega, fun _ => rfl⟩
  | n + 1 => by
    have ih := bn_0 L p n
    have h1 := bn_R L p n
    have h2 := bt_01 L (p + n)
    rw [bn_s]
    constructor
    · intro z i hi
      have z1 : bn L p n = 0 := by omega
      by_cases hin : i = n
      · subst hin; omega
      · exact ih.mp z1 i (by omega)
    · intro z
      have := ih.mpr fun i hi => z i (by omega)
      have := z n (by omega)
      omega
/-- what is left is fill -/
def rest (L : List Int) (p e : Int) : Prop := e - p < 8 ∧ ∀ i : Nat, (i : Int) < e - p → bt L (p + i) = 0
def cRd (h : fx_H) (L : List Int) (b p e : Int) : Prop := cL h L b ∧ h.2.1 3 1 = p ∧ h.2.1 3 2 = e ∧ 0 ≤ p ∧ p ≤ e ∧ e ≤ 8 * L.length
def mB (h : fx_H) (L : List Int) (p e z : Int) : Prop := h.2.1 31 20 = p ∧ h.2.1 31 21 = e ∧ h.2.1 31 22 = z ∧ (z = 0 ∨ z = 1) ∧ 0 ≤ p ∧ p ≤ e ∧ e ≤ 8 * L.length ∧ L.length ≤ 2000 ∧ isB L ∧ ∀ i : Nat, i < L.length → h.2.2.1 33 i = L.getD i 0
abbrev rF : Nat → Prop := fun k => k = 20 ∨ k = 22
abbrev s3 : Nat → Prop := fun j => j = 3
section BI
variable {l : Launch} {Q : Option Value → fx_H → Prop} {h : fx_H} {a : Nat → Nat} {pp dd : Nat} {L : List Int} {b p e z : Int}
theorem cRd.sm {P : Nat → Prop} {h h2 : fx_H} (c : cRd h L b p e) (m : sm P h h2) (h1 : ¬ P 1) (h3 : ¬ P 2) (h4 : ¬ P 3) : cRd h2 L b p e := ⟨c.1.sm m h1 h3, by rw [m.2.1 3 1 h4]; exact c.2.1, by rw [m.2.1 3 2 h4]; exact c.2.2.1, c.2.2.2⟩
theorem cRd.nx (c : cRd h L b p e) (hp : p < e) : cRd (fx_uF h 3 1 (p + 1)) L b (p + 1) e := by
  obtain ⟨cl, e1, e2, p0, pe, el⟩ := c
  exact ⟨cl.sm (P := s3) (sm.uF rfl) (by omega) (by omega), uF_s _ _ _ _, by rw [uF_n _ _ (by omega)]; exact e2, by omega, by omega, el⟩
theorem m_bit (hS : h.1 = fx_S0 a pp dd) (c : cRd h L b p e) (k1 : p < e → ∀ h2, sm s3 h h2 → cRd h2 L b (p + 1) e → Q (some (.int (zI (bt L p)))) h2) (k0 : e ≤ p → Q (some (.int (zI (-1)))) h) : fx_Mt l M_BR_bit (0, 0) [.ref 3] h Q := by
  have c' := c
  obtain ⟨cl, e1, e2, p0, pe, el⟩ := c
  have hl := cl.2.2.2.1
  have hb := bya_R cl.2.2.2.2 (p / 8)
  refine e_BR_bit hS ?_
  rw [e1, e2]
  refine ⟨by omega, by omega, fun z => ⟨p0, m_byteL hS cl (by omega) (by omega) ⟨_, rfl, rfl, ?_⟩⟩, fun z => k0 (by omega)⟩
  rw [e1]
  exact ⟨p0, by omega, ⟨by omega, by omega⟩, by omega, k1 z _ (sm.uF rfl) (c'.nx z)⟩
theorem m_numberB {n : Nat} (hS : h.1 = fx_S0 a pp dd) (c : cRd h L b p e) (hn : n ≤ 30) (k1 : p + n ≤ e → ∀ h2, sm s3 h h2 → cRd h2 L b (p + n) e → Q (some (.int (zI (bn L p n)))) h2) (k0 : e < p + n → Q (some (.int (zI (-1)))) h) : fx_Mt l M_BR_number (0, 0) [.ref 3, .int (zI (n : Nat))] h Q := by
  have hl := c.1.2.2.2.1
  have he := c.2.2.2.2.2
  have hpe := c.2.2.2.2.1
  have hp0 := c.2.2.2.1
  refine e_BR_number hS ?_
  rw [c.2.1, c.2.2.1]
  refine ⟨by omega, by omega, fun z => ?_, fun z => k0 (by omega)⟩
  have loop : ∀ (m k : Nat) (h2 : fx_H), k + m = n → sm s3 h h2 → cRd h2 L b (p + k) e → fx_V l M_BR_number (0, 0) Q 0 0 19 [some (.ref 3), some (.int (zI (n : Nat))), some (.int (zI (bn L p k))), some (.int (zI (k : Nat)))] [] h2 := by
    intro m
    induction m with
    | zero =>
      intro k h2 hk m2 c2
      have hk2 : k = n := by omega
      subst hk2
      exact w_BR_number_19 (m2.1.trans hS) ⟨by omega, by omega, fun _ => k1 (by omega) h2 m2 c2, fun z => absurd (Int.le_refl _) z⟩
    | succ m ih =>
      intro k h2 hk m2 c2
      have hb := bn_lt L p (show k ≤ 29 by omega)
      have hb0 := (bn_R L p k).1
      have h01 := bt_01 L (p + k)
      refine w_BR_number_19 (m2.1.trans hS) ⟨by omega, by omega, fun z => by omega, fun _ => ?_⟩
      refine m_bit (m2.1.trans hS) c2 (fun z h3 m3 c3 => ⟨_, rfl, m3.1, by omega, by omega, by omega, by omega, ?_⟩) (fun z => by omega)
      rw [zor_bit hb0 h01, ← bn_s]
      have e1 : (k : Int) + 1 = ((k + 1 : Nat) : Int) := by omega
      have e2 : p + (k : Int) + 1 = p + ((k + 1 : Nat) : Int) := by omega
      rw [e1]
      rw [e2] at c3
      exact ih (k + 1) h3 (by omega) (m2.tr m3) c3
  exact loop n 0 h (by omega) sm.rf (by simpa using c)
theorem m_atEnd (hS : h.1 = fx_S0 a pp dd) (c : cRd h L b p e) (k1 : p = e → Q (some (.int (zI 1))) h) (k0 : ¬ p = e → Q (some (.int (zI 0))) h) : fx_Mt l M_BR_atEnd (0, 0) [.ref 3] h Q := by
  obtain ⟨cl, e1, e2, p0, pe, el⟩ := c
  have hl := cl.2.2.2.1
  refine e_BR_atEnd hS ?_
  rw [e1, e2]
  exact ⟨by omega, by omega, k0, k1⟩
theorem m_onlyFillLeft (hS : h.1 = fx_S0 a pp dd) (c : cRd h L b p e) (k1 : rest L p e → ∀ h2, sm s3 h h2 → cRd h2 L b e e → Q (some (.int (zI 1))) h2) (k0 : ¬ rest L p e → ∀ h2, sm s3 h h2 → Q (some (.int (zI 0))) h2) : fx_Mt l M_BR_onlyFillLeft (0, 0) [.ref 3] h Q := by
  have c' := c
  obtain ⟨cl, e1, e2, p0, pe, el⟩ := c
  have hl := cl.2.2.2.1
  refine e_BR_onlyFillLeft hS ?_
  rw [e1, e2]
  refine ⟨by omega, fun z => k0 (fun w => by have := w.1; omega) h sm.rf, fun z => ?_⟩
  obtain ⟨n, hn⟩ : ∃ n : Nat, e - p = n := ⟨(e - p).toNat, by omega⟩
  rw [hn]
  have hb := bn_lt L p (show n ≤ 8 by omega)
  have hb0 := (bn_R L p n).1
  refine m_numberB hS c' (by omega) (fun _ h2 m2 c2 => ⟨_, rfl, m2.1, by omega, fun z2 => k0 (fun w => z2 ((bn_0 L p n).mpr fun i hi => w.2 i (by omega))) h2 m2, fun z2 => ?_⟩) (fun z2 => by omega)
  have e9 : p + (n : Int) = e := by omega
  rw [e9] at c2
  exact k1 ⟨by omega, fun i hi => (bn_0 L p n).mp z2 i (by omega)⟩ h2 m2 c2
theorem mB.mo {PA PF : Nat → Prop} {h h2 : fx_H} (c : mB h L p e z) (m : mo PA PF h h2) (hA : ¬ PA 33) (f1 : ¬ PF 20) (f2 : ¬ PF 21) (f3 : ¬ PF 22) : mB h2 L p e z := by
  obtain ⟨e1, e2, e3, c4, c5, c6, c7, c8, c9, c10⟩ := c
  exact ⟨(m.2 20 f1).trans e1, (m.2 21 f2).trans e2, (m.2 22 f3).trans e3, c4, c5, c6, c7, c8, c9, fun i hi => by rw [m.1.2.2.1 33 i (by rintro (w | w); omega; exact hA w)]; exact c10 i hi⟩
theorem mB.uz {z2 : Int} (c : mB h L p e z) (hz : z2 = 0 ∨ z2 = 1) : mB (fx_uF h 31 22 z2) L p e z2 := by
  obtain ⟨e1, e2, e3, c4, c5, c6, c7, c8, c9, c10⟩ := c
  exact ⟨by rw [uF_n _ _ (by omega)]; exact e1, by rw [uF_n _ _ (by omega)]; exact e2, uF_s _ _ _ _, hz, c5, c6, c7, c8, c9, c10⟩
theorem mB.up (c : mB h L p e z) (hp : p < e) : mB (fx_uF h 31 20 (p + 1)) L (p + 1) e z := by
  obtain ⟨e1, e2, e3, c4, c5, c6, c7, c8, c9, c10⟩ := c
  exact ⟨uF_s _ _ _ _, by rw [uF_n _ _ (by omega)]; exact e2, by rw [uF_n _ _ (by omega)]; exact e3, c4, by omega, by omega, c7, c8, c9, c10⟩
theorem m_needT (hS : h.1 = fx_S0 a pp dd) (c : mB h L p e z) (k : ∀ h2, mo fN rF h h2 → mB h2 L p e z → Q (some (.int (zI 1))) h2) : fx_Mt l M_MO_need (0, 0) [.ref 31, .int (zI 1)] h Q := by
  have hz := c.2.2.2.1
  refine e_MO_need hS ?_
  rw [c.2.2.1]
  refine ⟨by omega, fun w => ⟨Or.inr rfl, k _ (mo.uF (Or.inr rfl)) ?_⟩, fun w => ⟨by omega, fun _ => ⟨Or.inr rfl, k _ (mo.uF (Or.inr rfl)) ?_⟩, fun w2 => by omega⟩⟩
  · have e1 : z = 1 := by omega
    subst e1
    exact c.uz (Or.inr rfl)
  · subst w
    exact c.uz (Or.inl rfl)
theorem m_needF (hS : h.1 = fx_S0 a pp dd) (c : mB h L p e z) (k : ∀ h2, mo fN rF h h2 → mB h2 L p e 1 → Q (some (.int (zI 0))) h2) : fx_Mt l M_MO_need (0, 0) [.ref 31, .int (zI 0)] h Q := by
  have hz := c.2.2.2.1
  refine e_MO_need hS ?_
  rw [c.2.2.1]
  exact ⟨by omega, fun w => ⟨Or.inl rfl, k _ (mo.uF (Or.inr rfl)) (c.uz (Or.inr rfl))⟩, fun w => ⟨by omega, fun w2 => absurd rfl w2, fun _ => ⟨Or.inl rfl, k _ (mo.uF (Or.inr rfl)) (c.uz (Or.inr rfl))⟩⟩⟩
theorem m_inBit (hS : h.1 = fx_S0 a pp dd) (c : mB h L p e z) (k1 : p < e → ∀ h2, mo fN rF h h2 → mB h2 L (p + 1) e z → Q (some (.int (zI (bt L p)))) h2) (k0 : e ≤ p → ∀ h2, mo fN rF h h2 → mB h2 L p e 1 → Q (some (.int (zI 0))) h2) : fx_Mt l M_MO_inBit (0, 0) [.ref 31] h Q := by
  have c4 := c.2.2.2.2.1
  have c5 := c.2.2.2.2.2.1
  have c6 := c.2.2.2.2.2.2.1
  have c7 := c.2.2.2.2.2.2.2.1
  have hB := c.2.2.2.2.2.2.2.2.1
  have hb := bya_R hB (p / 8)
  refine e_MO_inBit hS ?_
  rw [c.1, c.2.1]
  refine ⟨by omega, by omega, fun w => m_needF hS c fun h2 m2 c2 => ⟨0, rfl, m2.S, by omega, fun w2 => absurd rfl w2, fun _ => k0 w h2 m2 c2⟩, fun w => m_needT hS c fun h2 m2 c2 => ⟨1, rfl, m2.S, by omega, fun _ => ?_, fun w2 => by omega⟩⟩
  rw [c2.1]
  have e1 : h2.2.2.1 33 (p / 8).toNat = bya L (p / 8) := c2.2.2.2.2.2.2.2.2.2 _ (by omega)
  rw [e1]
  exact ⟨by omega, by omega, by omega, by omega, by omega, ⟨by omega, by omega⟩, by omega, k1 (by omega) _ (m2.tr (mo.uF (Or.inl rfl))) (c2.up (by omega))⟩
theorem m_inBits {n : Nat} (hS : h.1 = fx_S0 a pp dd) (c : mB h L p e z) (hn : n ≤ 30) (k1 : z = 0 → p + n ≤ e → ∀ h2, mo fN rF h h2 → mB h2 L (p + n) e 0 → Q (some (.int (zI (bn L p n)))) h2) (k0 : (z = 1 ∨ e < p + n) → ∀ h2 r p2, mo fN rF h h2 → mB h2 L p2 e 1 → 0 ≤ r → r < 2 ^ n → Q (some (.int (zI r))) h2) : fx_Mt l M_MO_inBits (0, 0) [.ref 31, .int (zI (n : Nat))] h Q := by
  have hz := c.2.2.2.1
  refine e_MO_inBits hS ?_
  have c4 := c.2.2.2.2.1
  have c5 := c.2.2.2.2.2.1
  have hp1 := two_pow_pos n
  by_cases z1 : z = 1
  · refine w_MO_inBits_4 hS ⟨by omega, by omega, fun _ => k0 (Or.inl z1) h 0 p mo.rf (z1 ▸ c) (by omega) (by omega), fun _ => ?_⟩
    rw [c.2.2.1]
    exact ⟨by omega, fun _ => k0 (Or.inl z1) h 0 p mo.rf (z1 ▸ c) (by omega) (by omega), fun w => by omega⟩
  have z0 : z = 0 := by omega
  subst z0
  have loop : ∀ (m k : Nat) (h2 : fx_H), k + m = n → p + k ≤ e → mo fN rF h h2 → mB h2 L (p + k) e 0 → fx_V l M_MO_inBits (0, 0) Q 0 0 4 [some (.ref 31), some (.int (zI (n : Nat))), some (.int (zI (bn L p k))), some (.int (zI (k : Nat)))] [] h2 := by
    intro m
    induction m with
    | zero =>
      intro k h2 hk hpe m2 c2
      have hk2 : k = n := by omega
      subst hk2
      exact w_MO_inBits_4 (m2.S.trans hS) ⟨by omega, by omega, fun _ => k1 rfl (by omega) h2 m2 c2, fun w => absurd (Int.le_refl _) w⟩
    | succ m ih =>
      intro k h2 hk hpe m2 c2
      have hb := bn_R L p k
      have hbn := p2_le (show k + 1 ≤ n by omega)
      have h2k : (2 : Int) ^ (k + 1) = 2 * 2 ^ k := by rw [Int.pow_succ]; omega
      have h30 := p2_le hn
      have e1 : (k : Int) + 1 = ((k + 1 : Nat) : Int) := by omega
      have e2 : p + (k : Int) + 1 = p + ((k + 1 : Nat) : Int) := by omega
      refine w_MO_inBits_4 (m2.S.trans hS) ⟨by omega, by omega, fun w => by omega, fun _ => ?_⟩
      rw [c2.2.2.1]
      refine ⟨by omega, fun w => by omega, fun _ => m_inBit (m2.S.trans hS) c2 (fun w h3 m3 c3 => ⟨_, rfl, m3.S, ?_⟩) (fun w h3 m3 c3 => ⟨_, rfl, m3.S, ?_⟩)⟩
      · rw [← bn_s, e1]
        rw [e2] at c3
        exact ih (k + 1) h3 (by omega) (by omega) (m2.tr m3) c3
      · have out : e < p + n := by omega
        refine w_MO_inBits_4 ((m2.tr m3).S.trans hS) ⟨by omega, by omega, fun _ => k0 (Or.inr out) h3 _ _ (m2.tr m3) c3 (by omega) (by omega), fun _ => ?_⟩
        rw [c3.2.2.1]
        exact ⟨by omega, fun _ => k0 (Or.inr out) h3 _ _ (m2.tr m3) c3 (by omega) (by omega), fun w => by omega⟩
  exact loop n 0 h (by omega) (by omega) mo.rf (by simpa using c)
theorem m_inByte (hS : h.1 = fx_S0 a pp dd) (c : mB h L p e z) (k1 : z = 0 → p + 8 ≤ e → ∀ h2, mo fN rF h h2 → mB h2 L (p + 8) e 0 → Q (some (.int (zI (bn L p 8)))) h2) (k0 : (z = 1 ∨ e < p + 8) → ∀ h2 r p2, mo fN rF h h2 → mB h2 L p2 e 1 → 0 ≤ r → r < 256 → Q (some (.int (zI r))) h2) : fx_Mt l M_MO_inByte (0, 0) [.ref 31] h Q :=
  e_MO_inByte hS (m_inBits (n := 8) hS c (by omega) (fun w w2 h2 m2 c2 => ⟨_, rfl, m2.S, k1 w w2 h2 m2 c2⟩) (fun w h2 r p2 m2 c2 r0 r1 => ⟨_, rfl, m2.S, k0 w h2 r p2 m2 c2 r0 r1⟩))
theorem m_inRest (hS : h.1 = fx_S0 a pp dd) (c : mB h L p e z) (k1 : z = 0 → rest L p e → ∀ h2, mo fN rF h h2 → mB h2 L e e 0 → Q none h2) (k0 : (z = 1 ∨ ¬ rest L p e) → ∀ h2 p2, mo fN rF h h2 → mB h2 L p2 e 1 → Q none h2) : fx_Mt l M_MO_inRest (0, 0) [.ref 31] h Q := by
  have hz := c.2.2.2.1
  have c4 := c.2.2.2.2.1
  have c5 := c.2.2.2.2.2.1
  have c6 := c.2.2.2.2.2.2.1
  have c7 := c.2.2.2.2.2.2.2.1
  have stop : ∀ (h2 : fx_H) (p2 : Int), (z = 1 ∨ ¬ rest L p e) → mo fN rF h h2 → mB h2 L p2 e 1 → fx_V l M_MO_inRest (0, 0) Q 0 0 24 [some (.ref 31)] [] h2 := by
    intro h2 p2 w m2 c2
    refine w_MO_inRest_24 (m2.S.trans hS) ?_
    have d5 := c2.2.2.2.2.1
    have d6 := c2.2.2.2.2.2.1
    rw [c2.1, c2.2.1, c2.2.2.1]
    exact ⟨by omega, by omega, fun _ => k0 w h2 p2 m2 c2, fun _ => ⟨by omega, fun _ => k0 w h2 p2 m2 c2, fun w => by omega⟩⟩
  refine e_MO_inRest hS ?_
  rw [c.1, c.2.1]
  refine ⟨by omega, fun w => m_needF hS c fun h2 m2 c2 => ⟨_, rfl, m2.S, stop h2 p (Or.inr fun q => by have := q.1; omega) m2 c2⟩, fun w => m_needT hS c fun h2 m2 c2 => ⟨_, rfl, m2.S, ?_⟩⟩
  by_cases z1 : z = 1
  · exact stop h2 p (Or.inl z1) m2 (z1 ▸ c2)
  have z0 : z = 0 := by omega
  subst z0
  have loop : ∀ (m k : Nat) (h2 : fx_H), (k : Int) + m = e - p → (∀ i : Nat, i < k → bt L (p + i) = 0) → mo fN rF h h2 → mB h2 L (p + k) e 0 → fx_V l M_MO_inRest (0, 0) Q 0 0 24 [some (.ref 31)] [] h2 := by
    intro m
    induction m with
    | zero =>
      intro k h2 hk hb m2 c2
      have ek : p + (k : Int) = e := by omega
      rw [ek] at c2
      refine w_MO_inRest_24 (m2.S.trans hS) ?_
      rw [c2.1, c2.2.1]
      exact ⟨by omega, by omega, fun _ => k1 rfl ⟨by omega, fun i hi => hb i (by omega)⟩ h2 m2 c2, fun w => absurd (Int.le_refl _) w⟩
    | succ m ih =>
      intro k h2 hk hb m2 c2
      refine w_MO_inRest_24 (m2.S.trans hS) ?_
      rw [c2.1, c2.2.1, c2.2.2.1]
      have h01 := bt_01 L (p + k)
      have e2 : p + (k : Int) + 1 = p + ((k + 1 : Nat) : Int) := by omega
      refine ⟨by omega, by omega, fun w => by omega, fun _ => ⟨by omega, fun w => by omega, fun _ => m_inBit (m2.S.trans hS) c2 (fun w h3 m3 c3 => ⟨_, rfl, m3.S, by omega, fun w2 => ?_, fun w2 => ?_⟩) (fun w => by omega)⟩⟩
      · refine m_needF ((m2.tr m3).S.trans hS) c3 fun h4 m4 c4 => ⟨_, rfl, m4.S, stop h4 _ (Or.inr fun q => w2 (q.2 k (by omega))) ((m2.tr m3).tr m4) c4⟩
      · refine m_needT ((m2.tr m3).S.trans hS) c3 fun h4 m4 c4 => ⟨_, rfl, m4.S, ?_⟩
        rw [e2] at c4
        refine ih (k + 1) h4 (by omega) (fun i hi => ?_) ((m2.tr m3).tr m4) c4
        by_cases hik : i = k
        · subst hik; exact w2
        · exact hb i (by omega)
  exact loop (e - p).toNat 0 h2 (by omega) (fun i hi => by omega) m2 (by simpa using c2)
end BI
