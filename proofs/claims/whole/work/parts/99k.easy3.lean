/-! put, set, blank -/
section EC
variable {l : Launch} {Q : Option Value → fx_H → Prop} {h h2 : fx_H} {a : Nat → Nat} {pp dd : Nat} {g w t : Int} {f : Int → Int → Int} {L : List Int} {K : Int × Int × Int × Int × Int}
def putO (L : List Int) (x y : Int) : List Int := L.set x.toNat y
theorem set_len (L : List Int) (n : Nat) (y : Int) : (L.set n y).length = L.length := List.length_set
theorem set_get (L : List Int) (n : Nat) (y : Int) (i : Nat) (hi : i < L.length) : (L.set n y).getD i 0 = if i = n then y else L.getD i 0 := by
  rw [List.getD_eq_getElem?_getD, List.getD_eq_getElem?_getD, List.getElem?_set]
  by_cases e : n = i
  · subst e; rw [if_pos rfl, if_pos rfl, if_pos hi]; rfl
  · rw [if_neg e, if_neg (fun z => e z.symm)]
theorem set_isB {L : List Int} (h : isB L) (n : Nat) {y : Int} (hy : 0 ≤ y ∧ y < 256) : isB (L.set n y) := fun b hb => by
  rcases List.mem_or_eq_of_mem_set hb with q | q
  · exact h b q
  · omega
theorem c_put {x y : Int} (c : CPs h a pp dd g w t f L K) (hx : 0 ≤ x ∧ x < L.length) (hy : 0 ≤ y ∧ y < 256) (k : ∀ h2, sm (fun j => j = 1 ∨ j = 2) h h2 → CPs h2 a pp dd g w t f (putO L x y) K → Q (some (.int (zI (bya L x)))) h2) : fx_Mt l M_FP_put (0, 0) [.ref 0, .int (zI x), .int (zI y)] h Q := by
  obtain ⟨hS, qd, c3, c4, ⟨b, c5⟩, -⟩ := id c
  have hl3 : h.2.1 1 1 = L.length := c5.1.len
  have hl2 := c5.2.2.2.1
  refine e_FP_put hS (pA hS qd) (pB hS qd) (dA hS qd) (dB hS qd) (m_BYhas hS c5 (by omega) (fun _ => ⟨1, rfl, rfl, by omega, fun _ => m_isByte hS (by omega) (fun _ => ⟨1, rfl, rfl, by omega, fun _ => m_byteL hS c5 hx.1 (by omega) ⟨_, rfl, rfl, ?_⟩, fun z => by omega⟩) (fun z => absurd hy z), fun z => by omega⟩) (fun z => absurd hx z))
  refine e_BY_change hS ?_
  rw [hl3]
  refine ⟨by omega, fun z => by omega, fun _ => ⟨by omega, fun z => by omega, fun _ => ⟨by omega, by omega, rfl, rfl, ?_⟩⟩⟩
  have mu : sm (fun j => j = 1 ∨ j = 2) h (fx_uA h 2 x.toNat y) := sm.uA (Or.inr rfl)
  refine k _ mu (c.fl mu (b := b) ⟨?_, c5.2.1, c5.2.2.1, by unfold putO; rw [set_len]; exact hl2, set_isB c5.2.2.2.2 _ hy⟩)
  obtain ⟨w1, w2, w3, w4⟩ := c5.1
  refine ⟨?_, w2, fun i hi => ?_, fun z => absurd rfl z⟩
  · show h.2.1 1 1 = (((putO L x y).length : Nat) : Int) + _
    unfold putO
    rw [set_len]; exact w1
  · have hi' : i < L.length := by
      have : i < (putO L x y).length := hi
      unfold putO at this
      rw [set_len] at this; exact this
    show (fx_uA h 2 x.toNat y).2.2.1 2 i = (putO L x y).getD i 0
    unfold putO
    rw [set_get L _ y i hi']
    by_cases e : i = x.toNat
    · rw [if_pos e, e, uA_s]
    · rw [if_neg e, uA_n _ _ (by omega)]; exact w3 i (by show i < L.length; exact hi')
theorem mL_put {b x y : Int} (d : mL h L b) (hx : 0 ≤ x ∧ x < L.length) (hy : 0 ≤ y ∧ y < 256) : mL (fx_uA h 33 x.toNat y) (putO L x y) b := by
  obtain ⟨⟨w1, w2, w3, w4⟩, d2⟩ := d
  refine ⟨⟨?_, w2, w3, fun i hi => ?_⟩, d2.1, d2.2.1, by unfold putO; rw [set_len]; exact d2.2.2.1, set_isB d2.2.2.2 _ hy⟩
  · show h.2.1 31 5 = (((putO L x y).length : Nat) : Int)
    unfold putO
    rw [set_len]; exact w1
  · have hi' : i < L.length := by
      have : i < (putO L x y).length := hi
      unfold putO at this
      rw [set_len] at this; exact this
    show (fx_uA h 33 x.toNat y).2.2.1 33 i = (putO L x y).getD i 0
    unfold putO
    rw [set_get L _ y i hi']
    by_cases e : i = x.toNat
    · rw [if_pos e, e, uA_s]
    · rw [if_neg e, uA_n _ _ (by omega)]; exact w4 i (by show i < L.length; exact hi')
set_option maxHeartbeats 2000000 in
theorem r_put {x y : Int} (hS : h.1 = fx_S0 a pp dd) (c : MPs h g w t f L K) (hx : zR x) (hy : zR y) (k0 : (0 ≤ x ∧ x < L.length) ∧ (0 ≤ y ∧ y < 256) → ∀ h2, sm hi31 h h2 → h2.2.1 31 0 = 0 → MPs h2 g w t f (putO L x y) K → Q (some (.int (zI (bya L x)))) h2) (k1 : ¬ (0 ≤ x ∧ x < L.length) → ∀ h2, sm hi31 h h2 → h2.2.1 31 0 = 1 → MPs h2 g w t f L K → Q (some (.int (zI 0))) h2) (k2 : (0 ≤ x ∧ x < L.length) ∧ ¬ (0 ≤ y ∧ y < 256) → ∀ h2, sm hi31 h h2 → h2.2.1 31 0 = 2 → MPs h2 g w t f L K → Q (some (.int (zI 0))) h2) : fx_Mt l M_MO_put (0, 0) [.ref 31, .int (zI x), .int (zI y)] h Q := by
  obtain ⟨b, c2⟩ := c.2.1
  have e5 : h.2.1 31 5 = L.length := c2.1.1
  have hl := c2.2.2.2.1
  have m0 : ∀ u, sm hi31 h (fx_uF h 31 0 u) := fun u => sm.uF ⟨Nat.le_refl 31, by omega⟩
  have go : ∀ x1 y1 : Int, (x1 = 0 ∨ x1 = 1) → (y1 = 0 ∨ y1 = 1) → (x1 = 1 ↔ ¬ (0 ≤ x ∧ x < L.length)) → (y1 = 1 ↔ ¬ (0 ≤ y ∧ y < 256)) → fx_Mt l M_MO_refused (0, 0) [.ref 31, .int (zI x1), .int (zI y1)] h (fun v h5 => ∃ r7 : Int, v = some (.int (zI r7)) ∧ h5.1 = h.1 ∧ zR r7 ∧ ((r7 = 0 → 0 ≤ x ∧ x < 2000 ∧ 0 ≤ x ∧ x < 2000 ∧ Q (some (.int (zI (h5.2.2.1 33 (x.toNat))))) (fx_uA h5 33 (x.toNat) y)) ∧ (¬ (r7 = 0) → Q (some (.int (zI 0))) h5))) := by
    intro x1 y1 hx1 hy1 ix iy
    refine r_refT hS hx1 hy1 (fun z => ⟨0, rfl, rfl, by omega, fun _ => ?_, fun z2 => absurd rfl z2⟩) (fun z => ⟨1, rfl, rfl, by omega, fun z2 => by omega, fun _ => k1 (ix.mp z) _ (m0 1) (uF_s _ _ _ _) c.f0⟩) (fun z => ⟨1, rfl, rfl, by omega, fun z2 => by omega, fun _ => k2 ⟨by omega, iy.mp z.2⟩ _ (m0 2) (uF_s _ _ _ _) c.f0⟩)
    have qx : 0 ≤ x ∧ x < L.length := by omega
    have qy : 0 ≤ y ∧ y < 256 := by omega
    have c0 := c.f0 (u := 0)
    obtain ⟨b2, d2⟩ := c0.2.1
    have e33 : (fx_uF h 31 0 0).2.2.1 33 x.toNat = bya L x := d2.1.2.2.2 x.toNat (by show x.toNat < L.length; omega)
    rw [e33]
    have mu : mo (fun j => j = 33) (fun k => k < 0) (fx_uF h 31 0 0) (fx_uA (fx_uF h 31 0 0) 33 x.toNat y) := mo.uA rfl
    exact ⟨by omega, by omega, by omega, by omega, k0 ⟨qx, qy⟩ _ ((m0 0).tr (mu.hi fun j q => by omega)) (uF_s h 31 0 0) (c0.fl mu (mL_put d2 qx qy) (by omega) (by omega) (by omega) (by omega) (by omega) (by omega) (by omega) (by omega) (by omega))⟩
  refine e_MO_put hS ?_
  rw [e5]
  refine ⟨hx, fun z => ⟨hy, fun z2 => ?_, fun z2 => ⟨fun z3 => ?_, fun z3 => ?_⟩⟩, fun z => ⟨by omega, fun z4 => ⟨hy, fun z2 => ?_, fun z2 => ⟨fun z3 => ?_, fun z3 => ?_⟩⟩, fun z4 => ⟨hy, fun z2 => ?_, fun z2 => ⟨fun z3 => ?_, fun z3 => ?_⟩⟩⟩⟩
  all_goals exact go _ _ (by omega) (by omega) (by omega) (by omega)
/-- may a pixel have the value? -/
def pvO (g u : Int) : Prop := 0 ≤ u ∧ u ≤ (if g = 0 then 1 else 255)
def setF (f : Int → Int → Int) (x y u : Int) : Int → Int → Int := fun a b => if a = x ∧ b = y then u else f a b
theorem c_set {x y u : Int} (c : CPs h a pp dd g w t f L K) (hx : zR x) (hy : zR y) (hu : zR u) (hin : 0 ≤ x ∧ x < w ∧ 0 ≤ y ∧ y < t) (hp : pvO g u) (k : ∀ h2, sm lo31 h h2 → CPs h2 a pp dd g w t (setF f x y u) L K → Q none h2) : fx_Mt l M_FP_set (0, 0) [.ref 0, .int (zI x), .int (zI y), .int (zI u)] h Q := by
  obtain ⟨hS, qd, c3, c4, ⟨b, c5⟩, cp, c7, c8, c9, c10⟩ := id c
  have hdd : (pp = 27 ∧ dd = 29) ∨ (pp = 29 ∧ dd = 27) := qd
  have hpp : h.2.1 pp 1 = g := cp.2.2.2.1
  unfold pvO at hp
  have paint : fx_Mt l M_PI_paint (0, 0) [.ref pp, .int (zI x), .int (zI y), .int (zI u)] h (fun v h11 => v = none ∧ h11.1 = h.1 ∧ Q none h11) := by
    refine m_paintP cp hx hy hp fun h2 m2 p2 => ⟨rfl, m2.1, k h2 (m2.mono fun j q => by omega) ⟨m2.1.trans hS, qd, c3.sm m2 (by omega) (by omega), c4.sm m2 (by omega) (by omega) (by omega), ⟨b, c5.sm m2 (by omega) (by omega)⟩, ?_, m2.pic c7 (by omega), (m2.2.1 0 12 (by omega)).trans c8, c9, fun z => ?_⟩⟩
    · have ef : setF f x y u = (fun a b => if (0 ≤ x ∧ x < w ∧ 0 ≤ y ∧ y < t) ∧ a = x ∧ b = y then u else f a b) := by
        funext a b
        unfold setF
        by_cases q : a = x ∧ b = y
        · rw [if_pos q, if_pos ⟨hin, q⟩]
        · rw [if_neg q, if_neg (fun z => q z.2)]
      rw [ef]; exact p2
    · rw [m2.2.1 0 13 (by omega), m2.2.1 0 14 (by omega), m2.2.1 0 15 (by omega), m2.2.1 0 16 (by omega)]; exact c10 z
  have hin2 : fp_in h pp x y := by unfold fp_in; rw [cp.2.2.2.2.1, cp.2.2.2.2.2.1]; exact hin
  refine e_FP_set hS (pA hS qd) (pB hS qd) (dA hS qd) (dB hS qd) (m_has cp.1 hx hy (fun _ => ⟨1, rfl, rfl, by omega, fun _ => ⟨hu, fun z => by omega, fun _ => ?_⟩, fun z => by omega⟩) (fun z => absurd hin2 z))
  have hg := cp.2.2.2.2.2.2.2.1
  rw [hpp]
  refine ⟨by omega, fun z => ⟨fun _ => paint, fun z2 => ?_⟩, fun z => ⟨fun _ => paint, fun z2 => ?_⟩⟩
  · rw [if_pos z] at hp; omega
  · rw [if_neg z] at hp; omega
theorem setF_pOK (o : pOK g w t f) {x y u : Int} (hin : 0 ≤ x ∧ x < w ∧ 0 ≤ y ∧ y < t) (hp : pvO g u) : pOK g w t (setF f x y u) := by
  obtain ⟨o1, o2, o3, o4, o5, o6, o7, o8⟩ := o
  refine ⟨o1, o2, o3, o4, o5, o6, fun a b => ?_, fun a b hn => ?_⟩
  · unfold setF
    split
    · exact hp
    · exact o7 a b
  · unfold setF
    rw [if_neg]
    · exact o8 a b hn
    · rintro ⟨rfl, rfl⟩; exact hn hin
/-- the picture changes, and nothing else -/
theorem MPs.pc {PF : Nat → Prop} {g2 w2 t2 : Int} {f2 : Int → Int → Int} (c : MPs h g w t f L K) (m : mo (fun j => j = 32) PF h h2) (hF : ∀ k, PF k → k ≤ 3) (e1 : h2.2.1 31 1 = g2) (e2 : h2.2.1 31 2 = w2) (e3 : h2.2.1 31 3 = t2) (px : ∀ x y, 0 ≤ x → x < w2 → 0 ≤ y → y < t2 → h2.2.2.1 32 (w2 * y + x).toNat = f2 x y) (o : pOK g2 w2 t2 f2) : MPs h2 g2 w2 t2 f2 L K := by
  obtain ⟨c1, ⟨b, c2⟩, c3, c4, c5, c6, c7, c8, c9⟩ := c
  have nF : ∀ k, 3 < k → ¬ PF k := fun k hk z => by have := hF k z; omega
  refine ⟨c1.mo m (by omega), ⟨b, c2.mo m (by omega) (nF 5 (by omega)) (nF 18 (by omega)) (nF 19 (by omega)) (nF 11 (by omega))⟩, e1, e2, e3, px, o, fun z => ?_, fun z => ?_⟩
  · rw [m.2 7 (nF 7 (by omega)), m.2 8 (nF 8 (by omega)), m.2 9 (nF 9 (by omega)), m.2 10 (nF 10 (by omega))]; exact c8 z
  · rw [m.2 7 (nF 7 (by omega)), m.2 8 (nF 8 (by omega)), m.2 9 (nF 9 (by omega)), m.2 10 (nF 10 (by omega))]; exact c9 z
set_option maxHeartbeats 2000000 in
theorem r_set {x y u : Int} (hS : h.1 = fx_S0 a pp dd) (c : MPs h g w t f L K) (hx : zR x) (hy : zR y) (hu : zR u) (k0 : (0 ≤ x ∧ x < w ∧ 0 ≤ y ∧ y < t) ∧ pvO g u → ∀ h2, sm hi31 h h2 → h2.2.1 31 0 = 0 → MPs h2 g w t (setF f x y u) L K → Q none h2) (k1 : ¬ (0 ≤ x ∧ x < w ∧ 0 ≤ y ∧ y < t) → ∀ h2, sm hi31 h h2 → h2.2.1 31 0 = 1 → MPs h2 g w t f L K → Q none h2) (k2 : (0 ≤ x ∧ x < w ∧ 0 ≤ y ∧ y < t) ∧ ¬ pvO g u → ∀ h2, sm hi31 h h2 → h2.2.1 31 0 = 2 → MPs h2 g w t f L K → Q none h2) : fx_Mt l M_MO_set (0, 0) [.ref 31, .int (zI x), .int (zI y), .int (zI u)] h Q := by
  obtain ⟨c1, c2, c3, c4, c5, c6, c7, c8, c9⟩ := id c
  have hg := c7.1
  have m0 : ∀ u, sm hi31 h (fx_uF h 31 0 u) := fun u => sm.uF ⟨Nat.le_refl 31, by omega⟩
  have go : ∀ x1 y1 : Int, (x1 = 0 ∨ x1 = 1) → (y1 = 0 ∨ y1 = 1) → (x1 = 1 ↔ ¬ (0 ≤ x ∧ x < w ∧ 0 ≤ y ∧ y < t)) → (y1 = 1 ↔ ¬ pvO g u) → fx_Mt l M_MO_refused (0, 0) [.ref 31, .int (zI x1), .int (zI y1)] h (fun v h8 => ∃ r10 : Int, v = some (.int (zI r10)) ∧ h8.1 = h.1 ∧ zR r10 ∧ ((¬ r10 = 0 → Q none h8) ∧ (r10 = 0 → 0 ≤ (((h8.2.1 31 2) * y) + x) ∧ (((h8.2.1 31 2) * y) + x) < 960 ∧ Q none (fx_uA h8 32 ((((h8.2.1 31 2) * y) + x).toNat) u)))) := by
    intro x1 y1 hx1 hy1 ix iy
    refine r_refT hS hx1 hy1 (fun z => ⟨0, rfl, rfl, by omega, fun z2 => absurd rfl z2, fun _ => ?_⟩) (fun z => ⟨1, rfl, rfl, by omega, fun _ => k1 (ix.mp z) _ (m0 1) (uF_s _ _ _ _) c.f0, fun z2 => by omega⟩) (fun z => ⟨1, rfl, rfl, by omega, fun _ => k2 ⟨?_, iy.mp z.2⟩ _ (m0 2) (uF_s _ _ _ _) c.f0, fun z2 => by omega⟩)
    · have qx : 0 ≤ x ∧ x < w ∧ 0 ≤ y ∧ y < t := by
        by_cases q : 0 ≤ x ∧ x < w ∧ 0 ≤ y ∧ y < t
        · exact q
        · have := ix.mpr q; omega
      have qu : pvO g u := by
        by_cases q : pvO g u
        · exact q
        · have := iy.mpr q; omega
      have c0 := c.f0 (u := 0)
      have e2 : (fx_uF h 31 0 0).2.1 31 2 = w := c0.2.2.2.1
      rw [e2]
      have pr := pix_R c7 qx
      have mu : mo (fun j => j = 32) (fun k => k = 0) (fx_uF h 31 0 0) (fx_uA (fx_uF h 31 0 0) 32 (w * y + x).toNat u) := mo.uA rfl
      refine ⟨pr.1, pr.2, k0 ⟨qx, qu⟩ _ ((m0 0).tr (mu.hi fun j q => by omega)) (uF_s h 31 0 0) (c0.pc mu (fun k q => by omega) c0.2.2.1 e2 c0.2.2.2.2.1 (fun x9 y9 q1 q2 q3 q4 => ?_) (setF_pOK c7 qx qu))⟩
      have pr9 := pix_R c7 ⟨q1, q2, q3, q4⟩
      unfold setF
      by_cases q : x9 = x ∧ y9 = y
      · obtain ⟨rfl, rfl⟩ := q
        rw [if_pos ⟨rfl, rfl⟩, uA_s]
      · rw [if_neg q, uA_n]
        · exact c0.2.2.2.2.2.1 x9 y9 q1 q2 q3 q4
        · rintro ⟨-, ee⟩
          have e9 : y9 * w + x9 = y * w + x := by rw [Int.mul_comm y9 w, Int.mul_comm y w]; omega
          exact q (fp_inj q1 q2 qx.1 qx.2.1 e9)
    · by_cases q : 0 ≤ x ∧ x < w ∧ 0 ≤ y ∧ y < t
      · exact q
      · have := ix.mpr q; omega
  have hw : 0 ≤ w ∧ w ≤ 40 := ⟨by have := c7.2.1; omega, c7.2.2.1⟩
  have ht : 0 ≤ t ∧ t ≤ 24 := ⟨by have := c7.2.2.2.1; omega, c7.2.2.2.2.1⟩
  have pg0 : g = 0 → (pvO g u ↔ 0 ≤ u ∧ u ≤ 1) := fun z => by unfold pvO; rw [if_pos z]
  have pg1 : ¬ g = 0 → (pvO g u ↔ 0 ≤ u ∧ u ≤ 255) := fun z => by unfold pvO; rw [if_neg z]
  have pneg : u < 0 → ¬ pvO g u := fun z q => by have := q.1; omega
  refine e_MO_set hS (m_isPixel hS c4 c5 hw ht hx hy (fun q => ⟨1, rfl, rfl, by omega, fun _ => ⟨hu, fun z => ?_, fun z => ?_⟩, fun z => by omega⟩) (fun q => ⟨0, rfl, rfl, by omega, fun z => absurd rfl z, fun _ => ⟨hu, fun z => ?_, fun z => ?_⟩⟩))
  · exact go 0 1 (by omega) (by omega) ⟨fun z2 => by omega, fun z2 => absurd q z2⟩ ⟨fun _ => pneg z, fun _ => rfl⟩
  · rw [c3]
    refine ⟨by omega, fun zg => ⟨fun z2 => ?_, fun z2 => ?_⟩, fun zg => ⟨fun z2 => ?_, fun z2 => ?_⟩⟩
    · exact go 0 0 (by omega) (by omega) ⟨fun z2 => by omega, fun z3 => absurd q z3⟩ ⟨fun z3 => by omega, fun z3 => absurd ((pg0 zg).mpr (by omega)) z3⟩
    · exact go 0 1 (by omega) (by omega) ⟨fun z2 => by omega, fun z3 => absurd q z3⟩ ⟨fun _ z3 => by have := (pg0 zg).mp z3; omega, fun _ => rfl⟩
    · exact go 0 0 (by omega) (by omega) ⟨fun z2 => by omega, fun z3 => absurd q z3⟩ ⟨fun z3 => by omega, fun z3 => absurd ((pg1 zg).mpr (by omega)) z3⟩
    · exact go 0 1 (by omega) (by omega) ⟨fun z2 => by omega, fun z3 => absurd q z3⟩ ⟨fun _ z3 => by have := (pg1 zg).mp z3; omega, fun _ => rfl⟩
  · exact go 1 1 (by omega) (by omega) ⟨fun _ => q, fun _ => rfl⟩ ⟨fun _ => pneg z, fun _ => rfl⟩
  · rw [c3]
    refine ⟨by omega, fun zg => ⟨fun z2 => ?_, fun z2 => ?_⟩, fun zg => ⟨fun z2 => ?_, fun z2 => ?_⟩⟩
    · exact go 1 0 (by omega) (by omega) ⟨fun _ => q, fun _ => rfl⟩ ⟨fun z3 => by omega, fun z3 => absurd ((pg0 zg).mpr (by omega)) z3⟩
    · exact go 1 1 (by omega) (by omega) ⟨fun _ => q, fun _ => rfl⟩ ⟨fun _ z3 => by have := (pg0 zg).mp z3; omega, fun _ => rfl⟩
    · exact go 1 0 (by omega) (by omega) ⟨fun _ => q, fun _ => rfl⟩ ⟨fun z3 => by omega, fun z3 => absurd ((pg1 zg).mpr (by omega)) z3⟩
    · exact go 1 1 (by omega) (by omega) ⟨fun _ => q, fun _ => rfl⟩ ⟨fun _ z3 => by have := (pg1 zg).mp z3; omega, fun _ => rfl⟩
theorem szOK_p {x y : Int} (hg : g = 0 ∨ g = 1) (s : szOK g x y) : pOK g x y (fun _ _ => 0) := by
  unfold szOK at s
  rcases hg with rfl | rfl
  · simp only [if_true] at s
    exact pOK0 (Or.inl rfl) (by omega) (by omega) (by omega) (by omega) (by omega)
  · rw [if_neg (by omega), if_neg (by omega)] at s
    exact pOK0 (Or.inr rfl) (by omega) (by omega) (by omega) (by omega) (by omega)
/-- a blank picture at p -/
theorem cP_blank {p : Nat} {g2 x y : Int} (p27 : 27 ≤ p) (ok : fp_ok h p) (o : pOK g2 x y (fun _ _ => 0)) (m2 : sm (fun j => j = p ∨ j = p + 1) h h2) (g1 : h2.2.1 p 1 = g2) (e2 : h2.2.1 p 2 = x) (g3 : h2.2.1 p 3 = y) (g4 : ∀ i : Nat, i < 960 → h2.2.2.1 (p + 1) i = 0) : cP h2 p g2 x y (fun _ _ => 0) := by
  refine ⟨⟨by rw [m2.1]; exact ok.1, by rw [m2.1]; exact ok.2.1, by rw [g1]; exact o.1, by rw [e2]; exact o.2.1, by rw [e2]; exact o.2.2.1, by rw [g3]; exact o.2.2.2.1, by rw [g3]; exact o.2.2.2.2.1⟩, fun i hi => ?_, p27, g1, e2, g3, fun x9 y9 => ?_, o⟩
  · rw [g4 i hi]; split <;> omega
  · unfold fp_px
    split
    · rename_i hin
      obtain ⟨w1, w2⟩ := fp_mul hin.1 hin.2.1 hin.2.2.1 hin.2.2.2 (by rw [e2]; exact o.2.2.1) (by rw [g3]; exact o.2.2.2.2.1)
      exact g4 _ (by omega)
    · rfl
theorem c_blank {g2 x y : Int} (c : CPs h a pp dd g w t f L K) (hg : g2 = 0 ∨ g2 = 1) (hx : zR x) (hy : zR y) (s : szOK g2 x y) (k : ∀ h2, sm lo31 h h2 → CPs h2 a pp dd g2 x y (fun _ _ => 0) L K → Q none h2) : fx_Mt l M_FP_blank (0, 0) [.ref 0, .int (zI g2), .int (zI x), .int (zI y)] h Q := by
  obtain ⟨hS, qd, c3, c4, ⟨b, c5⟩, cp, c7, c8, c9, c10⟩ := id c
  have hdd : (pp = 27 ∧ dd = 29) ∨ (pp = 29 ∧ dd = 27) := qd
  refine e_FP_blank hS (pA hS qd) (pB hS qd) (dA hS qd) (dB hS qd) ⟨hx, hy, m_sizeCanBe hS hg (by omega) (by omega) (fun _ => ⟨1, rfl, rfl, by omega, fun _ => ?_, fun z => by omega⟩) (fun z => absurd s z)⟩
  refine m_clear cp.1 hg fun h2 m2 g1 e2 g3 g4 => ⟨rfl, m2.1, k h2 (m2.mono fun j q => by omega) ⟨m2.1.trans hS, qd, c3.sm m2 (by omega) (by omega), c4.sm m2 (by omega) (by omega) (by omega), ⟨b, c5.sm m2 (by omega) (by omega)⟩, cP_blank cp.2.2.1 cp.1 (szOK_p hg s) m2 g1 e2 g3 g4, m2.pic c7 (by omega), (m2.2.1 0 12 (by omega)).trans c8, c9, fun z => ?_⟩⟩
  rw [m2.2.1 0 13 (by omega), m2.2.1 0 14 (by omega), m2.2.1 0 15 (by omega), m2.2.1 0 16 (by omega)]; exact c10 z
theorem r_blank {g2 x y : Int} (hS : h.1 = fx_S0 a pp dd) (c : MPs h g w t f L K) (hg : g2 = 0 ∨ g2 = 1) (hx : zR x) (hy : zR y) (k0 : szOK g2 x y → ∀ h2, sm hi31 h h2 → h2.2.1 31 0 = 0 → MPs h2 g2 x y (fun _ _ => 0) L K → Q none h2) (k1 : ¬ szOK g2 x y → ∀ h2, sm hi31 h h2 → h2.2.1 31 0 = 1 → MPs h2 g w t f L K → Q none h2) : fx_Mt l M_MO_blank (0, 0) [.ref 31, .int (zI g2), .int (zI x), .int (zI y)] h Q := by
  have m0 : ∀ u, sm hi31 h (fx_uF h 31 0 u) := fun u => sm.uF ⟨Nat.le_refl 31, by omega⟩
  refine e_MO_blank hS ⟨hx, hy, m_isSize hS hg (by omega) (by omega) (fun s => ⟨1, rfl, rfl, by omega, fun _ => ?_, fun z => by omega⟩) (fun s => ⟨0, rfl, rfl, by omega, fun z => absurd rfl z, fun _ => ?_⟩)⟩
  · refine r_refT hS (Or.inl rfl) (Or.inl rfl) (fun _ => ⟨0, rfl, rfl, by omega, fun _ => ⟨hg, ?_⟩, fun z => absurd rfl z⟩) (fun z => by omega) (fun z => by omega)
    have o := szOK_p hg s
    have c0 := c.f0 (u := 0)
    have mu : mo (fun j => j = 32) (fun k => k ≤ 3) (fx_uF h 31 0 0) (fx_uF (fx_uF (fx_uF (fx_uF h 31 0 0) 31 1 g2) 31 2 x) 31 3 y) := ((mo.uF (by omega)).tr (mo.uF (by omega))).tr (mo.uF (by omega))
    obtain ⟨h3, eh3⟩ : ∃ h3, fx_uF (fx_uF (fx_uF (fx_uF h 31 0 0) 31 1 g2) 31 2 x) 31 3 y = h3 := ⟨_, rfl⟩
    have q0 : h3.2.1 31 0 = 0 := by rw [← eh3, uF_n _ _ (by omega), uF_n _ _ (by omega), uF_n _ _ (by omega), uF_s]
    have q1 : h3.2.1 31 1 = g2 := by rw [← eh3, uF_n _ _ (by omega), uF_n _ _ (by omega), uF_s]
    have q2 : h3.2.1 31 2 = x := by rw [← eh3, uF_n _ _ (by omega), uF_s]
    have q3 : h3.2.1 31 3 = y := by rw [← eh3, uF_s]
    rw [eh3] at mu ⊢
    have loop : ∀ (m n : Nat) (h4 : fx_H), n + m = 960 → mo (fun j => j = 32) (fun k => k < 0) h3 h4 → (∀ i : Nat, i < n → h4.2.2.1 32 i = 0) → fx_V l M_MO_blank (0, 0) Q 0 0 43 [some (.ref 31), none, none, none, some (.int (zI (n : Nat)))] [] h4 := by
      intro m
      induction m with
      | zero =>
        intro n h4 hn m4 a4
        have hn9 : n = 960 := by omega
        subst hn9
        have m04 : mo (fun j => j = 32) (fun k => k ≤ 3) (fx_uF h 31 0 0) h4 := mu.tr ⟨m4.1, fun k hk => m4.2 k (by omega)⟩
        have hS4 : h4.1 = fx_S0 a pp dd := m04.S.trans hS
        refine w_MO_blank_43 hS4 ⟨by omega, fun _ => k0 s h4 ((m0 0).tr (m04.hi fun j q => by omega)) ((m4.2 0 (by omega)).trans q0) (c0.pc m04 (fun k q => q) ((m4.2 1 (by omega)).trans q1) ((m4.2 2 (by omega)).trans q2) ((m4.2 3 (by omega)).trans q3) (fun x9 y9 r1 r2 r3 r4 => ?_) o), fun z => by omega⟩
        have := pix_R o ⟨r1, r2, r3, r4⟩
        exact a4 _ (by omega)
      | succ m ih =>
        intro n h4 hn m4 a4
        have e1 : (n : Int) + 1 = ((n + 1 : Nat) : Int) := by omega
        have hS4 : h4.1 = fx_S0 a pp dd := m4.S.trans (mu.S.trans hS)
        refine w_MO_blank_43 hS4 ⟨by omega, fun z => by omega, fun _ => ⟨by omega, by omega, ?_⟩⟩
        rw [e1, Int.toNat_natCast]
        refine ih (n + 1) _ (by omega) (m4.tr (mo.uA rfl)) fun i hi => ?_
        by_cases hin : i = n
        · subst hin; rw [uA_s]
        · rw [uA_n _ _ (by omega)]; exact a4 i (by omega)
    exact loop 960 0 h3 (by omega) mo.rf fun i hi => by omega
  · exact r_refT hS (Or.inr rfl) (Or.inl rfl) (fun z => by omega) (fun _ => ⟨1, rfl, rfl, by omega, fun z => by omega, fun _ => k1 s _ (m0 1) (uF_s _ _ _ _) c.f0⟩) (fun z => by omega)
end EC
