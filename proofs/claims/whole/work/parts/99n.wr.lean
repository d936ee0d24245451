/-! write and read, for both sides -/
section WR
variable {l : Launch} {Q : Option Value → fx_H → Prop} {h h2 : fx_H} {a : Nat → Nat} {pp dd : Nat} {g w t : Int} {f : Int → Int → Int} {L : List Int} {K : Int × Int × Int × Int × Int} {s b rows : Int}
theorem wfile_isB {m : Nat} (hp : pOK g w t f) (hs : sOK s g) (hr : rOK t rows m) : isB (wfile b s g w t f rows m) := by
  have hst := (stp_R (L := whead b) hp hs hr (whead_len b) (whead_isB b) m (Nat.le_refl _)).1
  unfold wfile
  simp only
  refine (patJ_isB _ _ _ _ _ ?_).app ?_
  · unfold weven
    have hw : ∀ pl sz : Nat → Int, isB (wbes b (stp s g w t f rows (whead b) m) pl sz m) := by
      intro pl sz
      unfold wbes
      split
      · exact hst
      · exact (hst.app (longs_isB _ _ _ _)).app (longs_isB _ _ _ _)
    split
    · exact (hw _ _).app (isB_1 (by omega))
    · exact hw _ _
  · unfold wtags
    refine (wnum_isB _ _ _).app ((stg_isB _ _ _).app ((stg_isB _ _ _).app ((stg_isB _ _ _).app ((stg_isB _ _ _).app ((stg_isB _ _ _).app ((ltg_isB _ _ _ _).app ((stg_isB _ _ _).app ((ltg_isB _ _ _ _).app (isB.app ?_ (wnum_isB _ _ _))))))))))
    split
    · exact ltg_isB _ _ _ _
    · exact isB_nil
def wrO (t s rows : Int) : Prop := (s = 1 ∨ s = 32773 ∨ s = 5 ∨ s = 3 ∨ s = 4) ∧ 1 ≤ rows ∧ rows ≤ t
def wrM (t rows : Int) : Nat := ((t + rows - 1) / rows).toNat
theorem wrO.r (o : wrO t s rows) : rOK t rows (wrM t rows) := ⟨o.2.1, o.2.2, by unfold wrM; rw [Int.toNat_of_nonneg (Int.ediv_nonneg (by have := o.2; omega) (by have := o.2; omega))]⟩
theorem c_write (c : CPs h a pp dd g w t f L K) (o : wrO t s rows) (hsg : ¬ ((s = 3 ∨ s = 4) ∧ g = 1)) (hb : b = 0 ∨ b = 1) (k : ∀ h2, sm lo31 h h2 → CPs h2 a pp dd g w t f (wfile b s g w t f rows (wrM t rows)) (1, s, b, rows, (wrM t rows : Nat)) → Q (some (.int (zI (wfile b s g w t f rows (wrM t rows)).length))) h2) : fx_Mt l M_FP_write (0, 0) [.ref 0, .int (zI s), .int (zI b), .int (zI rows)] h Q := by
  obtain ⟨hS, qd, c3, c4, ⟨b0, c5⟩, cp, c7, c8, c9, c10⟩ := id c
  have hdd : (pp = 27 ∧ dd = 29) ∨ (pp = 29 ∧ dd = 27) := qd
  have hg := cp.2.2.2.2.2.2.2.1
  have hs : sOK s g := ⟨o.1, fun z => by omega⟩
  refine m_FPwrite hS qd c3 cp hs hb o.r fun h2 m2 e12 w2 len f12 f13 f14 f15 f16 => ?_
  exact k h2 (m2.mono fun j q => by omega) ⟨m2.1.trans hS, qd, c3.sm m2 (by omega) (by omega), c4.sm m2 (by omega) (by omega) (by omega), ⟨b, w2, e12, hb, len, wfile_isB cp.2.2.2.2.2.2.2 hs o.r⟩, cp.sm m2 (by omega) (by omega), m2.pic c7 (by omega), f12, Or.inr rfl, fun _ => ⟨f13, f14, hb, f15, f16⟩⟩
theorem r_write (hS : h.1 = fx_S0 a pp dd) (c : MPs h g w t f L K) (hs : zR s) (hr : zR rows) (hb : b = 0 ∨ b = 1) (k0 : wrO t s rows → ¬ ((s = 3 ∨ s = 4) ∧ g = 1) → (wfile b s g w t f rows (wrM t rows)).length ≤ 2000 → ∀ h2, sm hi31 h h2 → h2.2.1 31 0 = 0 → MPs h2 g w t f (wfile b s g w t f rows (wrM t rows)) (1, s, b, rows, (wrM t rows : Nat)) → Q (some (.int (zI (wfile b s g w t f rows (wrM t rows)).length))) h2) (k1 : ¬ wrO t s rows → ∀ h2, sm hi31 h h2 → h2.2.1 31 0 = 1 → MPs h2 g w t f L K → Q (some (.int (zI 0))) h2) (k2 : wrO t s rows → (s = 3 ∨ s = 4) ∧ g = 1 → ∀ h2, sm hi31 h h2 → h2.2.1 31 0 = 2 → MPs h2 g w t f L K → Q (some (.int (zI 0))) h2) (hlen : wrO t s rows → ¬ ((s = 3 ∨ s = 4) ∧ g = 1) → (wfile b s g w t f rows (wrM t rows)).length ≤ 2000) : fx_Mt l M_MO_write (0, 0) [.ref 31, .int (zI s), .int (zI b), .int (zI rows)] h Q := by
  obtain ⟨c1, ⟨b0, c2⟩, c3, c4, c5, c6, c7, c8, c9⟩ := id c
  have hg := c7.1
  have ht : zR t := by have := c7.2.2.2.1; have := c7.2.2.2.2.1; omega
  have m0 : ∀ u, sm hi31 h (fx_uF h 31 0 u) := fun u => sm.uF ⟨Nat.le_refl 31, by omega⟩
  by_cases o : wrO t s rows
  · by_cases q : (s = 3 ∨ s = 4) ∧ g = 1
    · exact m_MOwrite_2 hS hs hr c3 hg c5 ht o q (k2 o q _ (m0 2) (uF_s _ _ _ _) c.f0)
    · have hsO : sOK s g := ⟨o.1, fun z => by omega⟩
      refine m_MOwrite hS c3 c4 c5 c6 c7 c1 c2.1.2.1 c2.1.2.2.1 hsO hb o.r fun h2 m2 w2 f0 f7 f8 f9 f10 f11 => ?_
      refine k0 o q (hlen o q) h2 (m2.hi fun j z => by omega) f0 ⟨c1.mo m2 (by omega), ⟨b, w2, f11, hb, hlen o q, wfile_isB c7 hsO o.r⟩, (m2.2 1 (by omega)).trans c3, (m2.2 2 (by omega)).trans c4, (m2.2 3 (by omega)).trans c5, fun x y q1 q2 q3 q4 => by rw [m2.1.2.2.1 32 _ (by omega)]; exact c6 x y q1 q2 q3 q4, c7, fun z => ?_, fun _ => ⟨f7, f8, f9, f10⟩⟩
      exact absurd z (by show ¬ (1 : Int) = 0; omega)
  · exact m_MOwrite_1 hS hs hr c3 hg c5 ht o (k1 o _ (m0 1) (uF_s _ _ _ _) c.f0)
noncomputable def rdK (L : List Int) : Int × Int × Int × Int × Int := (1, ov L (hb L) 3, hb L, ov L (hb L) 6, rmm L (hb L))
theorem c_read (c : CPs h a pp dd g w t f L K) (kF : ∀ r, rdN L = some r → ∀ h2, sv lo31 h h2 → CPs h2 a pp dd g w t f L K → Q (some (.int (zI r))) h2) (k1 : ∀ f2, rdN L = none → rdP L = some f2 → pOK (rg L (hb L)) (ov L (hb L) 0) (ov L (hb L) 1) f2 → ∀ h2, sv lo31 h h2 → CPs h2 a dd pp (rg L (hb L)) (ov L (hb L) 0) (ov L (hb L) 1) f2 L (rdK L) → Q (some (.int (zI (rmm L (hb L))))) h2) : fx_Mt l M_FP_read (0, 0) [.ref 0] h Q := by
  obtain ⟨hS, qd, c3, c4, ⟨b0, c5⟩, cp, c7, c8, c9, c10⟩ := id c
  have hdd : (pp = 27 ∧ dd = 29) ∨ (pp = 29 ∧ dd = 27) := qd
  refine m_FPread hS qd c3 c4 c5 cp.1 c7 (fun r er h2 b2 m2 e0 cl2 dok2 => kF r er h2 (m2.v.mono fun j q => by omega) ⟨m2.1.trans hS, qd, c3.sm m2 (by omega) (by omega), c4.sm m2 (by omega) (by omega) (by omega), ⟨b2, cl2⟩, cp.sm m2 (by omega) (by omega), dok2, by rw [e0]; exact c8, c9, fun z => by rw [e0]; exact c10 z⟩) (fun f2 en hd tg ep h2 hS2 m2 cl2 cp2 pok2 f12 f13 f14 f15 f16 => ?_)
  have hb01 : hb L = 0 ∨ hb L = 1 := by unfold hb; split <;> omega
  refine k1 f2 en ep cp2.2.2.2.2.2.2.2 h2 (m2.mono fun j q => by omega) ⟨hS2, qd.sym, ⟨(m2.1 23 0 (by omega)).trans c3.1, (m2.1 24 0 (by omega)).trans c3.2⟩, ?_, ⟨hb L, cl2⟩, cp2, pok2, f12, Or.inr rfl, fun _ => ⟨f13, f14, hb01, f15, f16⟩⟩
  have tre : ∀ (tt : Nat) (W : List Int), 5 ≤ tt → tt ≤ 9 → cTr h tt W → cTr h2 tt W := by
    intro tt W t1 t2 ct
    obtain ⟨⟨a1, d1⟩, ⟨a2, d2⟩, d3⟩ := ct
    refine ⟨⟨a1, ?_⟩, ⟨a2, ?_⟩, fun i hi => by rw [m2.2.1 (tt + 1) i (by omega)]; exact d3 i hi⟩
    · rw [hS2, S0_same (by omega) dd pp pp dd, ← hS]; exact d1
    · rw [hS2, S0_same (by omega) dd pp pp dd, ← hS]; exact d2
  exact ⟨tre 5 _ (by omega) (by omega) c4.1, tre 7 _ (by omega) (by omega) c4.2.1, tre 9 _ (by omega) (by omega) c4.2.2⟩
theorem r_read (hS : h.1 = fx_S0 a pp dd) (c : MPs h g w t f L K) (kF : ∀ r, rdN L = some r → ∀ h2, sm hi31 h h2 → MPs h2 g w t f L K → Q (some (.int (zI r))) h2) (k1 : ∀ f2, rdN L = none → rdP L = some f2 → ∀ h2, sm hi31 h h2 → (pOK (rg L (hb L)) (ov L (hb L) 0) (ov L (hb L) 1) f2 → MPs h2 (rg L (hb L)) (ov L (hb L) 0) (ov L (hb L) 1) f2 L (rdK L)) → Q (some (.int (zI (rmm L (hb L))))) h2) : fx_Mt l M_MO_read (0, 0) [.ref 31] h Q := by
  obtain ⟨c1, ⟨b0, c2⟩, c3, c4, c5, c6, c7, c8, c9⟩ := id c
  refine m_MOread hS c1 c2 (fun r er h2 b2 m2 ml2 f0 => kF r er h2 (m2.hi fun j z => by omega) ⟨c1.mo m2 (by omega), ⟨b2, ml2⟩, (m2.2 1 (by omega)).trans c3, (m2.2 2 (by omega)).trans c4, (m2.2 3 (by omega)).trans c5, fun x y q1 q2 q3 q4 => by rw [m2.1.2.2.1 32 _ (by omega)]; exact c6 x y q1 q2 q3 q4, c7, fun z => ?_, fun z => ?_⟩) (fun f2 en ep h2 m2 ml2 f0 f1 f2' f3 px f7 f8 f9 f10 => k1 f2 en ep h2 (m2.hi fun j z => by omega) fun o => ⟨c1.mo m2 (by omega), ⟨hb L, ml2⟩, f1, f2', f3, px, o, fun z => absurd z (by show ¬ (1 : Int) = 0; omega), fun _ => ⟨f7, f8, f9, f10⟩⟩)
  · rw [m2.2 7 (by omega), m2.2 8 (by omega), m2.2 9 (by omega), m2.2 10 (by omega)]; exact c8 z
  · rw [m2.2 7 (by omega), m2.2 8 (by omega), m2.2 9 (by omega), m2.2 10 (by omega)]; exact c9 z
end WR
