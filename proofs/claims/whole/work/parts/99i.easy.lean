/-! what both sides hold, and the calls that throw nothing -/
/-- the program's side -/
def CPs (h : fx_H) (a : Nat → Nat) (pp dd : Nat) (g w t : Int) (f : Int → Int → Int) (L : List Int) (K : Int × Int × Int × Int × Int) : Prop := h.1 = fx_S0 a pp dd ∧ pd pp dd ∧ fxM h ∧ c3T h ∧ (∃ b, cL h L b) ∧ cP h pp g w t f ∧ fp_ok h dd ∧ h.2.1 0 12 = K.1 ∧ (K.1 = 0 ∨ K.1 = 1) ∧ (K.1 = 1 → h.2.1 0 13 = K.2.1 ∧ h.2.1 0 14 = K.2.2.1 ∧ (K.2.2.1 = 0 ∨ K.2.2.1 = 1) ∧ h.2.1 0 15 = K.2.2.2.1 ∧ h.2.1 0 16 = K.2.2.2.2)
/-- the reference's side -/
def MPs (h : fx_H) (g w t : Int) (f : Int → Int → Int) (L : List Int) (K : Int × Int × Int × Int × Int) : Prop := mC h ∧ (∃ b, mL h L b) ∧ h.2.1 31 1 = g ∧ h.2.1 31 2 = w ∧ h.2.1 31 3 = t ∧ (∀ x y, 0 ≤ x → x < w → 0 ≤ y → y < t → h.2.2.1 32 (w * y + x).toNat = f x y) ∧ pOK g w t f ∧ (K.1 = 0 → h.2.1 31 7 = -9 ∧ h.2.1 31 8 = -9 ∧ h.2.1 31 9 = -9 ∧ h.2.1 31 10 = -9) ∧ (K.1 = 1 → h.2.1 31 7 = K.2.1 ∧ h.2.1 31 8 = K.2.2.1 ∧ h.2.1 31 9 = K.2.2.2.1 ∧ h.2.1 31 10 = K.2.2.2.2)
abbrev lo31 : Nat → Prop := fun j => j < 31
abbrev hi31 : Nat → Prop := fun j => 31 ≤ j ∧ j < 47
section EA
variable {l : Launch} {Q : Option Value → fx_H → Prop} {h h2 : fx_H} {a : Nat → Nat} {pp dd : Nat} {g w t : Int} {f : Int → Int → Int} {L : List Int} {K : Int × Int × Int × Int × Int}
theorem CPs.hi (c : CPs h a pp dd g w t f L K) (m : sm hi31 h h2) : CPs h2 a pp dd g w t f L K := by
  obtain ⟨c1, c2, c3, c4, ⟨b, c5⟩, c6, c7, c8, c9, c10⟩ := c
  have hdd : (pp = 27 ∧ dd = 29) ∨ (pp = 29 ∧ dd = 27) := c2
  refine ⟨m.1.trans c1, c2, c3.sm m (by omega) (by omega), c4.sm m (by omega) (by omega) (by omega), ⟨b, c5.sm m (by omega) (by omega)⟩, c6.sm m (by omega) (by omega), m.pic c7 (by omega), (m.2.1 0 12 (by omega)).trans c8, c9, fun z => ?_⟩
  rw [m.2.1 0 13 (by omega), m.2.1 0 14 (by omega), m.2.1 0 15 (by omega), m.2.1 0 16 (by omega)]
  exact c10 z
theorem MPs.lo (c : MPs h g w t f L K) (m : sv lo31 h h2) : MPs h2 g w t f L K := by
  obtain ⟨c1, ⟨b, c2⟩, c3, c4, c5, c6, c7, c8, c9⟩ := c
  have eF : ∀ k, h2.2.1 31 k = h.2.1 31 k := fun k => m.1 31 k (by omega)
  have eA : ∀ q k, 31 ≤ q → h2.2.2.1 q k = h.2.2.1 q k := fun q k hq => m.2.1 q k (by omega)
  refine ⟨fun i hi => by rw [eA 35 _ (by omega), eA 35 _ (by omega)]; exact c1 i hi, ⟨b, ?_⟩, (eF 1).trans c3, (eF 2).trans c4, (eF 3).trans c5, fun x y h1 h3 h4 h5 => by rw [eA 32 _ (by omega)]; exact c6 x y h1 h3 h4 h5, c7, fun z => ?_, fun z => ?_⟩
  · obtain ⟨⟨w1, w2, w3, w4⟩, w5⟩ := c2
    refine ⟨⟨(eF 5).trans w1, (eF 18).trans w2, (eF 19).trans w3, fun i hi => by rw [eA 33 _ (by omega)]; exact w4 i hi⟩, ?_⟩
    rw [eF 11]; exact w5
  · rw [eF 7, eF 8, eF 9, eF 10]; exact c8 z
  · rw [eF 7, eF 8, eF 9, eF 10]; exact c9 z
theorem sm.v {P : Nat → Prop} (m : sm P h h2) : sv P h h2 := m.2
theorem sv.mono {P P2 : Nat → Prop} (m : sv P h h2) (hP : ∀ q, P q → P2 q) : sv P2 h h2 := ⟨fun q k hq => m.1 q k (fun z => hq (hP q z)), fun q k hq => m.2.1 q k (fun z => hq (hP q z)), fun q k hq => m.2.2 q k (fun z => hq (hP q z))⟩
theorem mo.hi {PA PF : Nat → Prop} (m : mo PA PF h h2) (hP : ∀ j, PA j → 31 ≤ j ∧ j < 47) : sm hi31 h h2 := m.1.mono fun j q => by
  rcases q with q | q
  · omega
  · exact hP j q
theorem MPs.keep {PA PF : Nat → Prop} (c : MPs h g w t f L K) (m : mo PA PF h h2) (h1 : ¬ PA 32) (h3 : ¬ PA 33) (h4 : ¬ PA 35) (f1 : ¬ PF 1) (f2 : ¬ PF 2) (f3 : ¬ PF 3) (f5 : ¬ PF 5) (f7 : ¬ PF 7) (f8 : ¬ PF 8) (f9 : ¬ PF 9) (f10 : ¬ PF 10) (f11 : ¬ PF 11) (f18 : ¬ PF 18) (f19 : ¬ PF 19) : MPs h2 g w t f L K := by
  obtain ⟨c1, ⟨b, c2⟩, c3, c4, c5, c6, c7, c8, c9⟩ := c
  refine ⟨c1.mo m h4, ⟨b, c2.mo m h3 f5 f18 f19 f11⟩, (m.2 1 f1).trans c3, (m.2 2 f2).trans c4, (m.2 3 f3).trans c5, fun x y q1 q2 q3 q4 => by rw [m.1.2.2.1 32 _ (by rintro (q | q); omega; exact h1 q)]; exact c6 x y q1 q2 q3 q4, c7, fun z => ?_, fun z => ?_⟩
  · rw [m.2 7 f7, m.2 8 f8, m.2 9 f9, m.2 10 f10]; exact c8 z
  · rw [m.2 7 f7, m.2 8 f8, m.2 9 f9, m.2 10 f10]; exact c9 z
theorem MPs.f0 {u : Int} (c : MPs h g w t f L K) : MPs (fx_uF h 31 0 u) g w t f L K := c.keep (PA := fN) (PF := fun k => k = 0) (mo.uF rfl) (by omega) (by omega) (by omega) (by omega) (by omega) (by omega) (by omega) (by omega) (by omega) (by omega) (by omega) (by omega) (by omega) (by omega)
theorem CPs.f0 {u : Int} (c : CPs h a pp dd g w t f L K) {k : Nat} : CPs (fx_uF h 31 k u) a pp dd g w t f L K := c.hi (sm.uF ⟨Nat.le_refl 31, by omega⟩)
def getO (w t : Int) (f : Int → Int → Int) (x y : Int) : Int := if 0 ≤ x ∧ x < w ∧ 0 ≤ y ∧ y < t then f x y else -9
theorem c_get {x y : Int} (c : CPs h a pp dd g w t f L K) (hx : zR x) (hy : zR y) (k : Q (some (.int (zI (getO w t f x y)))) h) : fx_Mt l M_FP_get (0, 0) [.ref 0, .int (zI x), .int (zI y)] h Q := by
  obtain ⟨hS, qd, c3, c4, c5, cp, -⟩ := c
  obtain ⟨p1, p2, p3, rfl, rfl, rfl, p7, p8⟩ := cp
  unfold getO at k
  refine e_FP_get hS (pA hS qd) (pB hS qd) (dA hS qd) (dB hS qd) (m_has p1 hx hy (fun q => ⟨1, rfl, rfl, by omega, fun z => by omega, fun _ => m_pixel p1 hx hy ⟨_, rfl, rfl, ?_⟩⟩) (fun q => ⟨0, rfl, rfl, by omega, fun _ => ?_, fun z => absurd rfl z⟩))
  · rw [if_pos q] at k; rw [p7]; exact k
  · rw [if_neg q] at k; exact k
theorem m_isPixel {x y : Int} (hS : h.1 = fx_S0 a pp dd) (hw : h.2.1 31 2 = w) (ht : h.2.1 31 3 = t) (hw2 : 0 ≤ w ∧ w ≤ 40) (ht2 : 0 ≤ t ∧ t ≤ 24) (hx : zR x) (hy : zR y) (k1 : 0 ≤ x ∧ x < w ∧ 0 ≤ y ∧ y < t → Q (some (.int (zI 1))) h) (k0 : ¬ (0 ≤ x ∧ x < w ∧ 0 ≤ y ∧ y < t) → Q (some (.int (zI 0))) h) : fx_Mt l M_MO_isPixel (0, 0) [.ref 31, .int (zI x), .int (zI y)] h Q := by
  refine e_MO_isPixel hS ?_
  rw [hw, ht]
  exact ⟨hx, fun z => k0 (by omega), fun z => ⟨by omega, fun z2 => k0 (by omega), fun z2 => ⟨hy, fun z3 => k0 (by omega), fun z3 => ⟨by omega, fun z4 => k0 (by omega), fun z4 => k1 (by omega)⟩⟩⟩⟩
theorem pix_R (o : pOK g w t f) {x y : Int} (q : 0 ≤ x ∧ x < w ∧ 0 ≤ y ∧ y < t) : 0 ≤ w * y + x ∧ w * y + x < 960 := by
  have := fp_mul q.1 q.2.1 q.2.2.1 q.2.2.2 o.2.2.1 o.2.2.2.2.1
  rw [Int.mul_comm w y]; exact this
theorem r_get {x y : Int} (hS : h.1 = fx_S0 a pp dd) (c : MPs h g w t f L K) (hx : zR x) (hy : zR y) (k : Q (some (.int (zI (getO w t f x y)))) (fx_uF h 31 0 0)) : fx_Mt l M_MO_get (0, 0) [.ref 31, .int (zI x), .int (zI y)] h Q := by
  obtain ⟨c1, c2, c3, c4, c5, c6, c7, -⟩ := c.f0 (u := 0)
  unfold getO at k
  refine e_MO_get hS (m_isPixel (h := fx_uF h 31 0 0) hS c4 c5 ⟨by have := c7.2.1; omega, c7.2.2.1⟩ ⟨by have := c7.2.2.2.1; omega, c7.2.2.2.2.1⟩ hx hy (fun q => ⟨1, rfl, rfl, by omega, fun z => by omega, fun _ => ?_⟩) (fun q => ⟨0, rfl, rfl, by omega, fun _ => ?_, fun z => absurd rfl z⟩))
  · rw [if_pos q] at k
    rw [c4]
    have := pix_R c7 q
    refine ⟨this.1, this.2, ?_⟩
    rw [c6 x y q.1 q.2.1 q.2.2.1 q.2.2.2]; exact k
  · rw [if_neg q] at k; exact k
def infO (g w t : Int) (K : Int × Int × Int × Int × Int) (n : Int) : Int := if n = 0 then w else if n = 1 then t else if n = 2 then g else if K.1 = 0 then -9 else if n = 3 then K.2.1 else if n = 4 then K.2.2.1 else if n = 5 then K.2.2.2.1 else if n = 6 then K.2.2.2.2 else -9
theorem c_info {n : Int} (c : CPs h a pp dd g w t f L K) (hn : zR n) (k : Q (some (.int (zI (infO g w t K n)))) h) : fx_Mt l M_FP_info (0, 0) [.ref 0, .int (zI n)] h Q := by
  obtain ⟨hS, qd, c3, c4, c5, cp, c7, c8, c9, c10⟩ := c
  obtain ⟨p1, p2, p3, p4, p5, p6, p7, p8⟩ := cp
  have hg := p8.1
  unfold infO at k
  refine e_FP_info hS (pA hS qd) (pB hS qd) (dA hS qd) (dB hS qd) ?_
  rw [p4, p5, p6, c8]
  refine ⟨hn, fun z => ⟨by omega, fun z2 => ?_, fun z2 => ?_⟩, fun z => ?_, fun z => ?_, fun z => ⟨by omega, fun z2 => ?_, fun z2 => ?_⟩⟩
  · rw [if_neg (by omega), if_neg (by omega), if_neg (by omega), if_pos z2] at k; exact k
  · rw [if_neg (by omega), if_neg (by omega), if_neg (by omega), if_neg z2] at k
    obtain ⟨d1, d2, d3, d4, d5⟩ := c10 (by omega)
    have H : fx_Mt l M_FP_infoOfFile (0, 0) [.ref 0, .int (zI n)] h (fun v h5 => h5 = h ∧ v = some (.int (zI (if n = 3 then K.2.1 else if n = 4 then K.2.2.1 else if n = 5 then K.2.2.2.1 else if n = 6 then K.2.2.2.2 else -9)))) := by
      refine e_FP_infoOfFile hS (pA hS qd) (pB hS qd) (dA hS qd) (dB hS qd) ?_
      rw [d1, d2, d4, d5]
      refine ⟨hn, fun z3 => ⟨rfl, ?_⟩, fun z3 => ⟨rfl, ?_⟩, fun z3 => ⟨by omega, fun z4 => ⟨rfl, ?_⟩, fun z4 => ⟨rfl, ?_⟩⟩, fun z3 => ⟨rfl, ?_⟩, fun z3 => ⟨rfl, ?_⟩⟩
      · rw [if_neg (by omega), if_neg (by omega), if_neg (by omega), if_neg (by omega)]
      · rw [if_pos z3]
      · rw [if_neg (by omega), if_pos z3, z4]
      · rw [if_neg (by omega), if_pos z3, show K.2.2.1 = 1 by omega]
      · rw [if_neg (by omega), if_neg (by omega), if_pos z3]
      · rw [if_neg (by omega), if_neg (by omega), if_neg (by omega), if_pos z3]
    refine fx_Mt.mono H fun v h5 hv => ?_
    obtain ⟨rfl, rfl⟩ := hv
    exact ⟨_, rfl, rfl, k⟩
  · rw [if_pos z] at k; exact k
  · rw [if_neg (by omega), if_pos z] at k; exact k
  · rw [if_neg (by omega), if_neg (by omega), if_pos z, z2] at k; exact k
  · rw [if_neg (by omega), if_neg (by omega), if_pos z, show g = 1 by omega] at k; exact k
theorem r_info {n : Int} (hS : h.1 = fx_S0 a pp dd) (c : MPs h g w t f L K) (hK : K.1 = 0 ∨ K.1 = 1) (hn : zR n) (k : Q (some (.int (zI (infO g w t K n)))) (fx_uF h 31 0 0)) : fx_Mt l M_MO_info (0, 0) [.ref 31, .int (zI n)] h Q := by
  obtain ⟨c1, c2, c3, c4, c5, c6, c7, c8, c9⟩ := c
  have hg := c7.1
  unfold infO at k
  refine e_MO_info hS ?_
  rw [c3, c4, c5]
  refine ⟨hn, fun z => ?_, fun z => ?_, fun z => ?_, fun z => ⟨by omega, fun z2 => ?_, fun z2 => ?_⟩, fun z => ?_, fun z => ?_, fun z => ?_, fun z => ?_⟩
  · rw [if_neg (by omega), if_neg (by omega), if_neg (by omega)] at k
    rcases hK with hK | hK
    · rw [if_pos hK] at k; exact k
    · rw [if_neg (by omega), if_neg (by omega), if_neg (by omega), if_neg (by omega), if_neg (by omega)] at k; exact k
  · rw [if_pos z] at k; exact k
  · rw [if_neg (by omega), if_pos z] at k; exact k
  · rw [if_neg (by omega), if_neg (by omega), if_pos z, z2] at k; exact k
  · rw [if_neg (by omega), if_neg (by omega), if_pos z, show g = 1 by omega] at k; exact k
  all_goals
    rw [if_neg (by omega), if_neg (by omega), if_neg (by omega)] at k
    rcases hK with hK | hK
    · rw [if_pos hK] at k
      obtain ⟨d1, d2, d3, d4⟩ := c8 hK
      first | (rw [d1]; exact k) | (rw [d2]; exact k) | (rw [d3]; exact k) | (rw [d4]; exact k)
    · rw [if_neg (by omega)] at k
      obtain ⟨d1, d2, d3, d4⟩ := c9 hK
      first
        | (rw [if_pos z] at k; rw [d1]; exact k)
        | (rw [if_neg (by omega), if_pos z] at k; rw [d2]; exact k)
        | (rw [if_neg (by omega), if_neg (by omega), if_pos z] at k; rw [d3]; exact k)
        | (rw [if_neg (by omega), if_neg (by omega), if_neg (by omega), if_pos z] at k; rw [d4]; exact k)
theorem c_size (c : CPs h a pp dd g w t f L K) (k : Q (some (.int (zI (L.length : Nat)))) h) : fx_Mt l M_FP_size (0, 0) [.ref 0] h Q := by
  obtain ⟨hS, qd, c3, c4, ⟨b, c5⟩, -⟩ := c
  refine e_FP_size hS (pA hS qd) (pB hS qd) (dA hS qd) (dB hS qd) ?_
  rw [show h.2.1 1 1 = L.length from c5.1.len]; exact k
theorem r_size (hS : h.1 = fx_S0 a pp dd) (c : MPs h g w t f L K) (k : Q (some (.int (zI (L.length : Nat)))) (fx_uF h 31 0 0)) : fx_Mt l M_MO_size (0, 0) [.ref 31] h Q := by
  obtain ⟨c1, ⟨b, c2⟩, -⟩ := c
  refine e_MO_size hS ?_
  rw [show h.2.1 31 5 = L.length from c2.1.1]; exact k
def atO (L : List Int) (x : Int) : Int := if 0 ≤ x ∧ x < L.length then bya L x else -9
theorem r_at {x : Int} (hS : h.1 = fx_S0 a pp dd) (c : MPs h g w t f L K) (hx : zR x) (k : Q (some (.int (zI (atO L x)))) (fx_uF h 31 0 0)) : fx_Mt l M_MO_at (0, 0) [.ref 31, .int (zI x)] h Q := by
  obtain ⟨c1, ⟨b, c2⟩, -⟩ := c
  have hl := c2.2.2.2.1
  have e5 : h.2.1 31 5 = L.length := c2.1.1
  unfold atO at k
  refine e_MO_at hS ?_
  rw [e5]
  refine ⟨hx, fun z => ?_, fun z => ⟨by omega, fun z2 => ⟨by omega, by omega, ?_⟩, fun z2 => ?_⟩⟩
  · rw [if_neg (by omega)] at k; exact k
  · rw [if_pos (by omega)] at k
    have : h.2.2.1 33 x.toNat = bya L x := c2.1.2.2.2 x.toNat (by show x.toNat < L.length; omega)
    rw [this]; exact k
  · rw [if_neg (by omega)] at k; exact k
end EA
