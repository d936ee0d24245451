/-! put, set, blank -/
section EC
variable {l : Launch} {Q : Option Value → fx_H → Prop} {h h2 : fx_H} {a : Nat → Nat} {pp dd : Nat} {g w t : Int} {f : Int → Int → Int} {L : List Int} {K : Int × Int × Int × Int × Int}
def putO (L : List Int) (x y : Int) : List Int := L.set x.toNat y
theorem set_len (L : List Int) (n : Nat) (y : Int) : (L.set n y).length = L.length := List.length_set
theorem set_get (L : List Int) (n : Nat) (y : Int) (i : Nat) (hi : i < L.length) : (L.set n y).getD i 0 = if i = n then y else L.getD i 0 := by
  rw [List.getD_eq_getElem?_getD, List.getD_eq_getElem?_getD, List.getElem?_set]
  by_cases e : n = i
  · subst e; rw [if_pos rfl, if_pos rfl, if_pos hi]; rfl
  · rw [if_neg e, if_neg (fun z => e z.symm)]
theorem set_isB {L : List Int} (h : isB L) (n : Nat) {y : Int} (hy : 0 ≤ y ∧ y < 256) : isB (L.set n y) := fun b hb => by
  rcases List.mem_or_eq_of_mem_set hb with q | q
  · exact h b q
  · omega
theorem c_put {x y : Int} (c : CPs h a pp dd g w t f L K) (hx : 0 ≤ x ∧ x < L.length) (hy : 0 ≤ y ∧ y < 256) (k : ∀ h2, sm (fun j => j = 1 ∨ j = 2) h h2 → CPs h2 a pp dd g w t f (putO L x y) K → Q (some (.int (zI (bya L x)))) h2) : fx_Mt l M_FP_put (0, 0) [.ref 0, .int (zI x), .int (zI y)] h Q := by
  obtain ⟨hS, qd, c3, c4, ⟨b, c5⟩, -⟩ := id c
  have hl3 : h.2.1 1 1 = L.length := c5.1.len
  have hl2 := c5.2.2.2.1
  refine e_FP_put hS (pA hS qd) (pB hS qd) (dA hS qd) (dB hS qd) (m_BYhas hS c5 (by omega) (fun _ => ⟨1, rfl, rfl, by omega, fun _ => m_isByte hS (by omega) (fun _ => ⟨1, rfl, rfl, by omega, fun _ => m_byteL hS c5 hx.1 (by omega) ⟨_, rfl, rfl, ?_⟩, fun z => by omega⟩) (fun z => absurd hy z), fun z => by omega⟩) (fun z => absurd hx z))
  refine e_BY_change hS ?_
  rw [hl3]
  refine ⟨by omega, fun z => by omega, fun _ => ⟨by omega, fun z => by omega, fun _ => ⟨by omega, by omega, rfl, rfl, ?_⟩⟩⟩
  have mu : sm (fun j => j = 1 ∨ j = 2) h (fx_uA h 2 x.toNat y) := sm.uA (Or.inr rfl)
  refine k _ mu (c.fl mu (b := b) ⟨?_, c5.2.1, c5.2.2.1, by unfold putO; rw [set_len]; exact hl2, set_isB c5.2.2.2.2 _ hy⟩)
  obtain ⟨w1, w2, w3, w4⟩ := c5.1
  refine ⟨?_, w2, fun i hi => ?_, fun z => absurd rfl z⟩
  · show h.2.1 1 1 = (((putO L x y).length : Nat) : Int) + _
    unfold putO
    rw [set_len]; exact w1
  · have hi' : i < L.length := by
      have : i < (putO L x y).length := hi
      unfold putO at this
      rw [set_len] at this; exact this
    show (fx_uA h 2 x.toNat y).2.2.1 2 i = (putO L x y).getD i 0
    unfold putO
    rw [set_get L _ y i hi']
    by_cases e : i = x.toNat
    · rw [if_pos e, e, uA_s]
    · rw [if_neg e, uA_n _ _ (by omega)]; exact w3 i (by show i < L.length; exact hi')
theorem mL_put {b x y : Int} (d : mL h L b) (hx : 0 ≤ x ∧ x < L.length) (hy : 0 ≤ y ∧ y < 256) : mL (fx_uA h 33 x.toNat y) (putO L x y) b := by
  obtain ⟨⟨w1, w2, w3, w4⟩, d2⟩ := d
  refine ⟨⟨?_, w2, w3, fun i hi => ?_⟩, d2.1, d2.2.1, by unfold putO; rw [set_len]; exact d2.2.2.1, set_isB d2.2.2.2 _ hy⟩
  · show h.2.1 31 5 = (((putO L x y).length : Nat) : Int)
    unfold putO
    rw [set_len]; exact w1
  · have hi' : i < L.length := by
      have : i < (putO L x y).length := hi
      unfold putO at this
      rw [set_len] at this; exact this
    show (fx_uA h 33 x.toNat y).2.2.1 33 i = (putO L x y).getD i 0
    unfold putO
    rw [set_get L _ y i hi']
    by_cases e : i = x.toNat
    · rw [if_pos e, e, uA_s]
    · rw [if_neg e, uA_n _ _ (by omega)]; exact w4 i (by show i < L.length; exact hi')
set_option maxHeartbeats 2000000 in
theorem r_put {x y : Int} (hS : h.1 = fx_S0 a pp dd) (c : MPs h g w t f L K) (hx : zR x) (hy : zR y) (k0 : (0 ≤ x ∧ x < L.length) ∧ (0 ≤ y ∧ y < 256) → ∀ h2, sm hi31 h h2 → h2.2.1 31 0 = 0 → MPs h2 g w t f (putO L x y) K → Q (some (.int (zI (bya L x)))) h2) (k1 : ¬ (0 ≤ x ∧ x < L.length) → ∀ h2, sm hi31 h h2 → h2.2.1 31 0 = 1 → MPs h2 g w t f L K → Q (some (.int (zI 0))) h2) (k2 : (0 ≤ x ∧ x < L.length) ∧ ¬ (0 ≤ y ∧ y < 256) → ∀ h2, sm hi31 h h2 → h2.2.1 31 0 = 2 → MPs h2 g w t f L K → Q (some (.int (zI 0))) h2) : fx_Mt l M_MO_put (0, 0) [.ref 31, .int (zI x), .int (zI y)] h Q := by
  obtain ⟨b, c2⟩ := c.2.1
  have e5 : h.2.1 31 5 = L.length := c2.1.1
  have hl := c2.2.2.2.1
  have m0 : ∀ u, sm hi31 h (fx_uF h 31 0 u) := fun u => sm.uF (Nat.le_refl 31)
  have go : ∀ x1 y1 : Int, (x1 = 0 ∨ x1 = 1) → (y1 = 0 ∨ y1 = 1) → (x1 = 1 ↔ ¬ (0 ≤ x ∧ x < L.length)) → (y1 = 1 ↔ ¬ (0 ≤ y ∧ y < 256)) → fx_Mt l M_MO_refused (0, 0) [.ref 31, .int (zI x1), .int (zI y1)] h (fun v h5 => ∃ r7 : Int, v = some (.int (zI r7)) ∧ h5.1 = h.1 ∧ zR r7 ∧ ((r7 = 0 → 0 ≤ x ∧ x < 2000 ∧ 0 ≤ x ∧ x < 2000 ∧ Q (some (.int (zI (h5.2.2.1 33 (x.toNat))))) (fx_uA h5 33 (x.toNat) y)) ∧ (¬ (r7 = 0) → Q (some (.int (zI 0))) h5))) := by
    intro x1 y1 hx1 hy1 ix iy
    refine r_refT hS hx1 hy1 (fun z => ⟨0, rfl, rfl, by omega, fun _ => ?_, fun z2 => absurd rfl z2⟩) (fun z => ⟨1, rfl, rfl, by omega, fun z2 => by omega, fun _ => k1 (ix.mp z) _ (m0 1) (uF_s _ _ _ _) c.f0⟩) (fun z => ⟨1, rfl, rfl, by omega, fun z2 => by omega, fun _ => k2 ⟨by omega, iy.mp z.2⟩ _ (m0 2) (uF_s _ _ _ _) c.f0⟩)
    have qx : 0 ≤ x ∧ x < L.length := by omega
    have qy : 0 ≤ y ∧ y < 256 := by omega
    have c0 := c.f0 (u := 0)
    obtain ⟨b2, d2⟩ := c0.2.1
    have e33 : (fx_uF h 31 0 0).2.2.1 33 x.toNat = bya L x := d2.1.2.2.2 x.toNat (by show x.toNat < L.length; omega)
    rw [e33]
    have mu : mo (fun j => j = 33) (fun k => k = 1000) (fx_uF h 31 0 0) (fx_uA (fx_uF h 31 0 0) 33 x.toNat y) := mo.uA rfl
    exact ⟨by omega, by omega, by omega, by omega, k0 ⟨qx, qy⟩ _ ((m0 0).tr (mu.hi fun j q => by omega)) (uF_s _ _ _ _) (c0.fl mu (mL_put d2 qx qy) (by omega) (by omega) (by omega) (by omega) (by omega) (by omega) (by omega) (by omega) (by omega))⟩
  refine e_MO_put hS ?_
  rw [e5]
  refine ⟨hx, fun z => ⟨hy, fun z2 => ?_, fun z2 => ⟨fun z3 => ?_, fun z3 => ?_⟩⟩, fun z => ⟨by omega, fun z4 => ⟨hy, fun z2 => ?_, fun z2 => ⟨fun z3 => ?_, fun z3 => ?_⟩⟩, fun z4 => ⟨hy, fun z2 => ?_, fun z2 => ⟨fun z3 => ?_, fun z3 => ?_⟩⟩⟩⟩
  all_goals exact go _ _ (by omega) (by omega) (by omega) (by omega)
/-- may a pixel have the value? -/
def pvO (g u : Int) : Prop := 0 ≤ u ∧ u ≤ (if g = 0 then 1 else 255)
def setF (f : Int → Int → Int) (x y u : Int) : Int → Int → Int := fun a b => if a = x ∧ b = y then u else f a b
theorem c_set {x y u : Int} (c : CPs h a pp dd g w t f L K) (hx : zR x) (hy : zR y) (hu : zR u) (hin : 0 ≤ x ∧ x < w ∧ 0 ≤ y ∧ y < t) (hp : pvO g u) (k : ∀ h2, sm lo31 h h2 → CPs h2 a pp dd g w t (setF f x y u) L K → Q none h2) : fx_Mt l M_FP_set (0, 0) [.ref 0, .int (zI x), .int (zI y), .int (zI u)] h Q := by
  obtain ⟨hS, qd, c3, c4, ⟨b, c5⟩, cp, c7, c8, c9, c10⟩ := id c
  have hdd : (pp = 27 ∧ dd = 29) ∨ (pp = 29 ∧ dd = 27) := qd
  have hpp : h.2.1 pp 1 = g := cp.2.2.2.1
  unfold pvO at hp
  have paint : fx_Mt l M_PI_paint (0, 0) [.ref pp, .int (zI x), .int (zI y), .int (zI u)] h (fun v h11 => v = none ∧ h11.1 = h.1 ∧ Q none h11) := by
    refine m_paintP cp hx hy hp fun h2 m2 p2 => ⟨rfl, m2.1, k h2 (m2.mono fun j q => by omega) ⟨m2.1.trans hS, qd, c3.sm m2 (by omega) (by omega), c4.sm m2 (by omega) (by omega) (by omega), ⟨b, c5.sm m2 (by omega) (by omega)⟩, ?_, m2.pic c7 (by omega), (m2.2.1 0 12 (by omega)).trans c8, c9, fun z => ?_⟩⟩
    · have ef : setF f x y u = (fun a b => if (0 ≤ x ∧ x < w ∧ 0 ≤ y ∧ y < t) ∧ a = x ∧ b = y then u else f a b) := by
        funext a b
        unfold setF
        by_cases q : a = x ∧ b = y
        · rw [if_pos q, if_pos ⟨hin, q⟩]
        · rw [if_neg q, if_neg (fun z => q z.2)]
      rw [ef]; exact p2
    · rw [m2.2.1 0 13 (by omega), m2.2.1 0 14 (by omega), m2.2.1 0 15 (by omega), m2.2.1 0 16 (by omega)]; exact c10 z
  have hin2 : fp_in h pp x y := by unfold fp_in; rw [cp.2.2.2.2.1, cp.2.2.2.2.2.1]; exact hin
  refine e_FP_set hS (pA hS qd) (pB hS qd) (dA hS qd) (dB hS qd) (m_has cp.1 hx hy (fun _ => ⟨1, rfl, rfl, by omega, fun _ => ⟨hu, fun z => by omega, fun _ => ?_⟩, fun z => by omega⟩) (fun z => absurd hin2 z))
  have hg := cp.2.2.2.2.2.2.2.1
  rw [hpp]
  refine ⟨by omega, fun z => ⟨fun _ => paint, fun z2 => ?_⟩, fun z => ⟨fun _ => paint, fun z2 => ?_⟩⟩
  · rw [if_pos z] at hp; omega
  · rw [if_neg z] at hp; omega
end EC
