/-! the other calls, where they are accepted; and the reference's refusals -/
section EB
variable {l : Launch} {Q : Option Value → fx_H → Prop} {h h2 : fx_H} {a : Nat → Nat} {pp dd : Nat} {g w t : Int} {f : Int → Int → Int} {L : List Int} {K : Int × Int × Int × Int × Int}
theorem m_BYhas {x : Int} (hS : h.1 = fx_S0 a pp dd) {b : Int} (c : cL h L b) (hx : zR x) (k1 : 0 ≤ x ∧ x < L.length → Q (some (.int (zI 1))) h) (k0 : ¬ (0 ≤ x ∧ x < L.length) → Q (some (.int (zI 0))) h) : fx_Mt l M_BY_has (0, 0) [.ref 1, .int (zI x)] h Q := by
  have hl := c.2.2.2.1
  refine e_BY_has hS ?_
  rw [show h.2.1 1 1 = L.length from c.1.len]
  exact ⟨hx, fun z => k0 (by omega), fun z => ⟨by omega, fun z2 => k0 (by omega), fun z2 => k1 (by omega)⟩⟩
theorem c_at {x : Int} (c : CPs h a pp dd g w t f L K) (hx : zR x) (k : Q (some (.int (zI (atO L x)))) h) : fx_Mt l M_FP_at (0, 0) [.ref 0, .int (zI x)] h Q := by
  obtain ⟨hS, qd, c3, c4, ⟨b, c5⟩, -⟩ := c
  unfold atO at k
  refine e_FP_at hS (pA hS qd) (pB hS qd) (dA hS qd) (dB hS qd) (m_BYhas hS c5 hx (fun q => ⟨1, rfl, rfl, by omega, fun z => by omega, fun _ => m_byteL hS c5 q.1 (by omega) ⟨_, rfl, rfl, ?_⟩⟩) (fun q => ⟨0, rfl, rfl, by omega, fun _ => ?_, fun z => absurd rfl z⟩))
  · rw [if_pos q] at k; exact k
  · rw [if_neg q] at k; exact k
theorem m_isByte {x : Int} (hS : h.1 = fx_S0 a pp dd) (hx : zR x) (k1 : 0 ≤ x ∧ x < 256 → Q (some (.int (zI 1))) h) (k0 : ¬ (0 ≤ x ∧ x < 256) → Q (some (.int (zI 0))) h) : fx_Mt l M_FP_isByte (0, 0) [.int (zI x)] h Q :=
  e_FP_isByte hS ⟨hx, fun z => k0 (by omega), fun z => ⟨fun z2 => k0 (by omega), fun z2 => k1 (by omega)⟩⟩
/-- the file changes, and nothing else -/
theorem CPs.fl {L2 : List Int} {b : Int} (c : CPs h a pp dd g w t f L K) (m : sm (fun j => j = 1 ∨ j = 2) h h2) (c2 : cL h2 L2 b) : CPs h2 a pp dd g w t f L2 K := by
  obtain ⟨c1, c2', c3, c4, c5, c6, c7, c8, c9, c10⟩ := c
  have hdd : (pp = 27 ∧ dd = 29) ∨ (pp = 29 ∧ dd = 27) := c2'
  refine ⟨m.1.trans c1, c2', c3.sm m (by omega) (by omega), c4.sm m (by omega) (by omega) (by omega), ⟨b, c2⟩, c6.sm m (by omega) (by omega), m.pic c7 (by omega), (m.2.1 0 12 (by omega)).trans c8, c9, fun z => ?_⟩
  rw [m.2.1 0 13 (by omega), m.2.1 0 14 (by omega), m.2.1 0 15 (by omega), m.2.1 0 16 (by omega)]
  exact c10 z
theorem MPs.fl {PA PF : Nat → Prop} {L2 : List Int} {b : Int} (c : MPs h g w t f L K) (m : mo PA PF h h2) (c2 : mL h2 L2 b) (h1 : ¬ PA 32) (h4 : ¬ PA 35) (f1 : ¬ PF 1) (f2 : ¬ PF 2) (f3 : ¬ PF 3) (f7 : ¬ PF 7) (f8 : ¬ PF 8) (f9 : ¬ PF 9) (f10 : ¬ PF 10) : MPs h2 g w t f L2 K := by
  obtain ⟨c1, -, c3, c4, c5, c6, c7, c8, c9⟩ := c
  refine ⟨c1.mo m h4, ⟨b, c2⟩, (m.2 1 f1).trans c3, (m.2 2 f2).trans c4, (m.2 3 f3).trans c5, fun x y q1 q2 q3 q4 => by rw [m.1.2.2.1 32 _ (by rintro (q | q); omega; exact h1 q)]; exact c6 x y q1 q2 q3 q4, c7, fun z => ?_, fun z => ?_⟩
  · rw [m.2 7 f7, m.2 8 f8, m.2 9 f9, m.2 10 f10]; exact c8 z
  · rw [m.2 7 f7, m.2 8 f8, m.2 9 f9, m.2 10 f10]; exact c9 z
def addO (L : List Int) (x : Int) : Prop := (0 ≤ x ∧ x < 256) ∧ L.length < 2000
theorem c_add {x : Int} (c : CPs h a pp dd g w t f L K) (hx : zR x) (k1 : addO L x → ∀ h2, sm (fun j => j = 1 ∨ j = 2) h h2 → CPs h2 a pp dd g w t f (L ++ [x]) K → Q (some (.int (zI 1))) h2) (k0 : ¬ addO L x → Q (some (.int (zI 0))) h) : fx_Mt l M_FP_add (0, 0) [.ref 0, .int (zI x)] h Q := by
  obtain ⟨hS, qd, c3, c4, ⟨b, c5⟩, -⟩ := id c
  have hl := c5.1.len
  have hl2 := c5.2.2.2.1
  have hl3 : h.2.1 1 1 = L.length := hl
  refine e_FP_add hS (pA hS qd) (pB hS qd) (dA hS qd) (dB hS qd) (m_isByte hS hx (fun q => ⟨1, rfl, rfl, by omega, fun z => by omega, fun _ => ⟨by omega, fun z => ?_, fun z => k0 (fun u => by have := u.2; omega)⟩⟩) (fun q => ⟨0, rfl, rfl, by omega, fun _ => k0 (fun u => q u.1), fun z => absurd rfl z⟩))
  refine m_append hS c5.1 (by omega) fun h2 m2 w2 => ⟨rfl, m2.1.1, k1 ⟨q, by omega⟩ h2 m2.1 (c.fl m2.1 (b := b) ⟨?_, (m2.2).trans c5.2.1, c5.2.2.1, by rw [List.length_append, List.length_singleton]; omega, c5.2.2.2.2.app (isB_1 q)⟩)⟩
  exact w2
theorem r_add {x : Int} (hS : h.1 = fx_S0 a pp dd) (c : MPs h g w t f L K) (hx : zR x) (k1 : addO L x → ∀ h2, sm hi31 h h2 → MPs h2 g w t f (L ++ [x]) K → Q (some (.int (zI 1))) h2) (k0 : ¬ addO L x → ∀ h2, sm hi31 h h2 → MPs h2 g w t f L K → Q (some (.int (zI 0))) h2) : fx_Mt l M_MO_add (0, 0) [.ref 31, .int (zI x)] h Q := by
  obtain ⟨b, c2⟩ := c.2.1
  have e5 : h.2.1 31 5 = L.length := c2.1.1
  have hl := c2.2.2.2.1
  have m0 : sm hi31 h (fx_uF h 31 0 0) := sm.uF ⟨Nat.le_refl 31, by omega⟩
  refine e_MO_add hS ?_
  rw [e5]
  refine ⟨hx, fun z => k0 (fun u => by have := u.1; omega) _ m0 c.f0, fun z => ⟨fun z2 => k0 (fun u => by have := u.1; omega) _ m0 c.f0, fun z2 => ⟨by omega, fun z3 => ⟨by omega, by omega, ?_⟩, fun z3 => k0 (fun u => by have := u.2; omega) _ m0 c.f0⟩⟩⟩
  rw [Int.toNat_natCast]
  have c0 := c.f0 (u := 0)
  obtain ⟨b2, d2⟩ := c0.2.1
  have mu : mo (fun j => j = 33) (fun k => k = 5) (fx_uF h 31 0 0) (fx_uF (fx_uA (fx_uF h 31 0 0) 33 L.length x) 31 5 ((L.length : Int) + 1)) := (mo.uA (PA := fun j => j = 33) (PF := fun k => k = 5) rfl).tr (mo.uF rfl)
  refine k1 ⟨by omega, by omega⟩ _ (m0.tr (mu.hi fun j q => by omega)) (c0.fl mu (b := b2) ⟨⟨?_, ?_, ?_, fun i hi => ?_⟩, (mu.2 11 (by omega)).trans d2.2.1, d2.2.2.1, by rw [List.length_append, List.length_singleton]; omega, d2.2.2.2.2.app (isB_1 (by omega))⟩ (by omega) (by omega) (by omega) (by omega) (by omega) (by omega) (by omega) (by omega) (by omega))
  · rw [uF_s]; show (L.length : Int) + 1 = (((L ++ [x]).length : Nat) : Int); rw [List.length_append, List.length_singleton]; omega
  · rw [uF_n _ _ (by omega)]; exact d2.1.2.1
  · rw [uF_n _ _ (by omega)]; exact d2.1.2.2.1
  · have hi' : i < L.length + 1 := by
      have : i < (L ++ [x]).length := hi
      rw [List.length_append, List.length_singleton] at this; exact this
    show (fx_uA (fx_uF h 31 0 0) 33 L.length x).2.2.1 33 i = (L ++ [x]).getD i 0
    by_cases e : i = L.length
    · subst e; rw [uA_s, getD_app2]
    · rw [uA_n _ _ (by omega), getD_app1 (by omega)]; exact d2.1.2.2.2 i (by show i < L.length; omega)
theorem cW_take (c : cW h (L, [])) (n : Nat) : cW (fx_uF h 1 1 ((L.take n).length : Int)) (L.take n, []) := by
  obtain ⟨w1, w2, w3, w4⟩ := c
  refine ⟨?_, by rw [uF_n _ _ (by omega)]; exact w2, fun i hi => ?_, fun z => absurd rfl z⟩
  · rw [uF_s]; simp
  · have hi' : i < (L.take n).length := hi
    rw [List.length_take] at hi'
    show h.2.2.1 2 i = (L.take n).getD i 0
    rw [List.getD_eq_getElem?_getD, List.getElem?_take, if_pos (by omega), ← List.getD_eq_getElem?_getD]
    exact w3 i (by show i < L.length; omega)
theorem c_cut {x : Int} (c : CPs h a pp dd g w t f L K) (hx : zR x) (hx0 : 0 ≤ x) (k : ∀ h2, sm (fun j => j = 1 ∨ j = 2) h h2 → CPs h2 a pp dd g w t f (L.take x.toNat) K → Q (some (.int (zI ((L.length : Int) - (L.take x.toNat).length)))) h2) : fx_Mt l M_FP_cut (0, 0) [.ref 0, .int (zI x)] h Q := by
  obtain ⟨hS, qd, c3, c4, ⟨b, c5⟩, -⟩ := id c
  have hl3 : h.2.1 1 1 = L.length := c5.1.len
  have hl2 := c5.2.2.2.1
  refine e_FP_cut hS (pA hS qd) (pB hS qd) (dA hS qd) (dB hS qd) ⟨hx, fun _ => ?_, fun z => absurd hx0 z⟩
  refine e_BY_keep hS ?_
  rw [hl3]
  have hT : ((L.take x.toNat).length : Int) = if x < (L.length : Int) then x else L.length := by
    rw [List.length_take]; split <;> omega
  rw [← hT]
  refine ⟨by omega, hx, rfl, rfl, ?_⟩
  have mu : sm (fun j => j = 1 ∨ j = 2) h (fx_uF h 1 1 ((L.take x.toNat).length : Int)) := sm.uF (Or.inl rfl)
  rw [uF_s]
  refine k _ mu (c.fl mu (b := b) ⟨?_, by rw [uF_n _ _ (by omega)]; exact c5.2.1, c5.2.2.1, by rw [List.length_take]; omega, c5.2.2.2.2.take _⟩)
  exact cW_take c5.1 x.toNat
theorem r_refT (hS : h.1 = fx_S0 a pp dd) {x y : Int} (hx : x = 0 ∨ x = 1) (hy : y = 0 ∨ y = 1) (k0 : x = 0 ∧ y = 0 → Q (some (.int (zI 0))) (fx_uF h 31 0 0)) (k1 : x = 1 → Q (some (.int (zI 1))) (fx_uF h 31 0 1)) (k2 : x = 0 ∧ y = 1 → Q (some (.int (zI 1))) (fx_uF h 31 0 2)) : fx_Mt l M_MO_refused (0, 0) [.ref 31, .int (zI x), .int (zI y)] h Q :=
  e_MO_refused hS ⟨by omega, fun z => ⟨by omega, fun z2 => k0 ⟨z, z2⟩, fun z2 => k2 ⟨z, by omega⟩⟩, fun z => k1 (by omega)⟩
theorem mL_take {b : Int} {n : Nat} {u : Int} (d : mL h L b) (hu : u = ((L.take n).length : Nat)) : mL (fx_uF h 31 5 u) (L.take n) b := by
  refine ⟨⟨?_, ?_, ?_, fun i hi => ?_⟩, by rw [uF_n _ _ (by omega)]; exact d.2.1, d.2.2.1, by rw [List.length_take]; have := d.2.2.2.1; omega, d.2.2.2.2.take n⟩
  · rw [uF_s]; exact hu
  · rw [uF_n _ _ (by omega)]; exact d.1.2.1
  · rw [uF_n _ _ (by omega)]; exact d.1.2.2.1
  · have hi' : i < (L.take n).length := hi
    rw [List.length_take] at hi'
    show h.2.2.1 33 i = (L.take n).getD i 0
    rw [List.getD_eq_getElem?_getD, List.getElem?_take, if_pos (by omega), ← List.getD_eq_getElem?_getD]
    exact d.1.2.2.2 i (by show i < L.length; omega)
theorem r_cut {x : Int} (hS : h.1 = fx_S0 a pp dd) (c : MPs h g w t f L K) (hx : zR x) (k1 : 0 ≤ x → ∀ h2, sm hi31 h h2 → h2.2.1 31 0 = 0 → MPs h2 g w t f (L.take x.toNat) K → Q (some (.int (zI ((L.length : Int) - (L.take x.toNat).length)))) h2) (k0 : x < 0 → ∀ h2, sm hi31 h h2 → h2.2.1 31 0 = 1 → MPs h2 g w t f L K → Q (some (.int (zI 0))) h2) : fx_Mt l M_MO_cut (0, 0) [.ref 31, .int (zI x)] h Q := by
  obtain ⟨b, c2⟩ := c.2.1
  have e5 : h.2.1 31 5 = L.length := c2.1.1
  have hl := c2.2.2.2.1
  have m0 : ∀ u, sm hi31 h (fx_uF h 31 0 u) := fun u => sm.uF ⟨Nat.le_refl 31, by omega⟩
  refine e_MO_cut hS ⟨hx, fun z => r_refT hS (Or.inl rfl) (Or.inl rfl) (fun _ => ⟨0, rfl, rfl, by omega, fun _ => ?_, fun z2 => absurd rfl z2⟩) (fun z2 => by omega) (fun z2 => by omega), fun z => r_refT hS (Or.inr rfl) (Or.inl rfl) (fun z2 => by omega) (fun _ => ⟨1, rfl, rfl, by omega, fun z2 => by omega, fun _ => k0 (by omega) _ (m0 1) (uF_s _ _ _ _) c.f0⟩) (fun z2 => by omega)⟩
  have c0 := c.f0 (u := 0)
  obtain ⟨b2, d2⟩ := c0.2.1
  have f5 : (fx_uF h 31 0 0).2.1 31 5 = L.length := by rw [uF_n _ _ (by omega)]; exact e5
  rw [f5]
  have go : ∀ u r : Int, u = ((L.take x.toNat).length : Nat) → r = (L.length : Int) - (L.take x.toNat).length → Q (some (.int (zI r))) (fx_uF (fx_uF h 31 0 0) 31 5 u) := by
    intro u r hu hr
    rw [hr]
    have mu : mo fN (fun k => k = 5) (fx_uF h 31 0 0) (fx_uF (fx_uF h 31 0 0) 31 5 u) := mo.uF rfl
    exact k1 z _ ((m0 0).tr (mu.hi fun j q => by omega)) (by rw [uF_n _ _ (by omega), uF_s]) (c0.fl mu (mL_take d2 hu) (by omega) (by omega) (by omega) (by omega) (by omega) (by omega) (by omega) (by omega) (by omega))
  refine ⟨by omega, fun z2 => go _ _ (by rw [List.length_take]; omega) (by rw [List.length_take]; omega), fun z2 => go _ _ (by rw [List.length_take]; omega) (by rw [List.length_take]; omega)⟩
end EB
