/-! the reference's write, whole -/
abbrev wA : Nat → Prop := fun j => j = 33 ∨ (36 ≤ j ∧ j ≤ 42)
abbrev wF : Nat → Prop := fun k => k = 0 ∨ k = 5 ∨ (7 ≤ k ∧ k ≤ 16) ∨ k = 18 ∨ k = 19 ∨ k = 27 ∨ k = 28
section MZ
variable {l : Launch} {Q : Option Value → fx_H → Prop} {h : fx_H} {a : Nat → Nat} {pp dd : Nat} {g w t : Int} {f : Int → Int → Int} {b s rows : Int}
theorem m_refused {x y : Int} (hS : h.1 = fx_S0 a pp dd) (hx : x = 0 ∨ x = 1) (hy : y = 0 ∨ y = 1) (k : Q (some (.int (zI (if x = 1 ∨ y = 1 then 1 else 0)))) (fx_uF h 31 0 (if x = 1 then 1 else if y = 1 then 2 else 0))) : fx_Mt l M_MO_refused (0, 0) [.ref 31, .int (zI x), .int (zI y)] h Q := by
  refine e_MO_refused hS ⟨by omega, fun z => ⟨by omega, fun z2 => ?_, fun z2 => ?_⟩, fun z => ?_⟩
  · rw [if_neg (by omega), if_neg (by omega), if_neg (by omega)] at k; exact k
  · rw [if_pos (by omega), if_neg (by omega), if_pos (by omega)] at k; exact k
  · rw [if_pos (by omega), if_pos (by omega)] at k; exact k
theorem v15 (hS : h.1 = fx_S0 a pp dd) (hs : zR s) (hr : zR rows) (hg : h.2.1 31 1 = g) (hgg : g = 0 ∨ g = 1) (ht : h.2.1 31 3 = t) (ht2 : zR t)
    (kb : ¬ ((s = 1 ∨ s = 32773 ∨ s = 5 ∨ s = 3 ∨ s = 4) ∧ 1 ≤ rows ∧ rows ≤ t) → ∀ y : Int, (y = 0 ∨ y = 1) → fx_V l M_MO_write (0, 0) Q 0 0 61 [some (.ref 31), some (.int (zI s)), some (.int (zI b)), some (.int (zI rows)), none, none, none, none] [.int (zI y), .int (zI 1), .ref 31] h)
    (kg : ((s = 1 ∨ s = 32773 ∨ s = 5 ∨ s = 3 ∨ s = 4) ∧ 1 ≤ rows ∧ rows ≤ t) → fx_V l M_MO_write (0, 0) Q 0 0 61 [some (.ref 31), some (.int (zI s)), some (.int (zI b)), some (.int (zI rows)), none, none, none, none] [.int (zI (if (s = 3 ∨ s = 4) ∧ g = 1 then 1 else 0)), .int (zI 0), .ref 31] h) : fx_Mt l M_MO_write (0, 0) [.ref 31, .int (zI s), .int (zI b), .int (zI rows)] h Q := by
  have h15 : fx_V l M_MO_write (0, 0) Q 0 0 15 [some (.ref 31), some (.int (zI s)), some (.int (zI b)), some (.int (zI rows)), none, none, none, none] [.int (zI (if s = 3 ∨ s = 4 then 1 else 0))] h := by
    refine w_MO_write_15 hS ⟨hs, ?_⟩
    have hy : zR (if s = 3 ∨ s = 4 then 1 else 0) := by split <;> omega
    have hy0 : (if s = 3 ∨ s = 4 then (1 : Int) else 0) = 0 → ¬ (s = 3 ∨ s = 4) := fun z q => by rw [if_pos q] at z; omega
    have hy1 : ¬ (if s = 3 ∨ s = 4 then (1 : Int) else 0) = 0 → (s = 3 ∨ s = 4) := fun z => by
      by_cases q : s = 3 ∨ s = 4
      · exact q
      · rw [if_neg q] at z; omega
    refine m_MOisScheme hS (by omega) (fun q => ⟨1, rfl, rfl, by omega, fun z => by omega, fun _ => ?_⟩) (fun q => ⟨0, rfl, rfl, by omega, fun _ => ⟨hy, fun z => kb (fun z9 => q z9.1) 0 (Or.inl rfl), fun z => ⟨by rw [hg]; omega, fun z2 => kb (fun z9 => q z9.1) 0 (Or.inl rfl), fun z2 => kb (fun z9 => q z9.1) 1 (Or.inr rfl)⟩⟩, fun z => absurd rfl z⟩)
    refine ⟨hr, fun z => ⟨hy, fun _ => kb (by omega) 0 (Or.inl rfl), fun _ => ⟨by rw [hg]; omega, fun _ => kb (by omega) 0 (Or.inl rfl), fun _ => kb (by omega) 1 (Or.inr rfl)⟩⟩, fun z => ?_⟩
    rw [ht]
    refine ⟨ht2, fun z2 => ?_, fun z2 => ⟨hy, fun _ => kb (by omega) 0 (Or.inl rfl), fun _ => ⟨by rw [hg]; omega, fun _ => kb (by omega) 0 (Or.inl rfl), fun _ => kb (by omega) 1 (Or.inr rfl)⟩⟩⟩
    have kg := kg ⟨q, by omega, z2⟩
    refine ⟨hy, fun z3 => ?_, fun z3 => ⟨by rw [hg]; omega, fun z4 => ?_, fun z4 => ?_⟩⟩
    · rw [if_neg (fun z9 => hy0 z3 z9.1)] at kg; exact kg
    · rw [hg] at z4
      rw [if_neg (by omega)] at kg; exact kg
    · rw [hg] at z4
      rw [if_pos ⟨hy1 z3, by omega⟩] at kg; exact kg
  refine e_MO_write hS ⟨hs, fun z => ?_, fun z => ⟨fun z2 => ?_, fun z2 => ?_⟩⟩
  · rw [if_pos (Or.inl z)] at h15; exact h15
  · rw [if_neg (by omega)] at h15; exact h15
  · rw [if_pos (Or.inr z2)] at h15; exact h15
theorem m_MOwrite_1 (hS : h.1 = fx_S0 a pp dd) (hs : zR s) (hr : zR rows) (hg : h.2.1 31 1 = g) (hgg : g = 0 ∨ g = 1) (ht : h.2.1 31 3 = t) (ht2 : zR t) (bad : ¬ ((s = 1 ∨ s = 32773 ∨ s = 5 ∨ s = 3 ∨ s = 4) ∧ 1 ≤ rows ∧ rows ≤ t)) (k : Q (some (.int (zI 0))) (fx_uF h 31 0 1)) : fx_Mt l M_MO_write (0, 0) [.ref 31, .int (zI s), .int (zI b), .int (zI rows)] h Q := by
  refine v15 hS hs hr hg hgg ht ht2 (fun _ y hy => ?_) (fun q => absurd q bad)
  refine w_MO_write_61 hS (m_refused hS (Or.inr rfl) hy ?_)
  rw [if_pos (Or.inl rfl), if_pos rfl]
  exact ⟨1, rfl, rfl, by omega, fun z => by omega, fun _ => k⟩
theorem m_MOwrite_2 (hS : h.1 = fx_S0 a pp dd) (hs : zR s) (hr : zR rows) (hg : h.2.1 31 1 = g) (hgg : g = 0 ∨ g = 1) (ht : h.2.1 31 3 = t) (ht2 : zR t) (ok : (s = 1 ∨ s = 32773 ∨ s = 5 ∨ s = 3 ∨ s = 4) ∧ 1 ≤ rows ∧ rows ≤ t) (bad : (s = 3 ∨ s = 4) ∧ g = 1) (k : Q (some (.int (zI 0))) (fx_uF h 31 0 2)) : fx_Mt l M_MO_write (0, 0) [.ref 31, .int (zI s), .int (zI b), .int (zI rows)] h Q := by
  refine v15 hS hs hr hg hgg ht ht2 (fun q => absurd ok q) (fun _ => ?_)
  rw [if_pos bad]
  refine w_MO_write_61 hS (m_refused hS (Or.inl rfl) (Or.inr rfl) ?_)
  rw [if_pos (Or.inr rfl), if_neg (by omega), if_pos rfl]
  exact ⟨1, rfl, rfl, by omega, fun z => by omega, fun _ => k⟩
theorem mo.xw {h h2 : fx_H} (m : mo xA xF h h2) : mo wA wF h h2 := m.mono (fun j z => by omega) (fun k z => by omega)
theorem mo.ow {h h2 : fx_H} (m : mo oA oF h h2) : mo wA wF h h2 := m.mono (fun j z => by omega) (fun k z => by omega)
theorem mP.uA {h : fx_H} {q k : Nat} {x : Int} (c : mP h g w t f) (hq : q ≠ 32) : mP (fx_uA h q k x) g w t f := ⟨c.1, c.2.1, c.2.2.1, fun x y h1 h2 h3 h4 => by rw [uA_n _ _ (by omega)]; exact c.2.2.2.1 x y h1 h2 h3 h4, c.2.2.2.2⟩
theorem mW.uA {h : fx_H} {S : WS} {q k : Nat} {x : Int} (c : mW h S) (hq : q ≠ 33) : mW (fx_uA h q k x) S := ⟨c.1, c.2.1, c.2.2.1, fun i hi => by rw [uA_n _ _ (by omega)]; exact c.2.2.2 i hi⟩
theorem m_MOwrite {m : Nat} (hS : h.1 = fx_S0 a pp dd) (hg : h.2.1 31 1 = g) (hw : h.2.1 31 2 = w) (ht : h.2.1 31 3 = t) (hpx : ∀ x y, 0 ≤ x → x < w → 0 ≤ y → y < t → h.2.2.1 32 (w * y + x).toNat = f x y) (hp : pOK g w t f) (mc : mC h) (h18 : h.2.1 31 18 = 0) (h19 : h.2.1 31 19 = 0) (hs : sOK s g) (hb : b = 0 ∨ b = 1) (hr : rOK t rows m) (k : ∀ h2, mo wA wF h h2 → mW h2 (wfile b s g w t f rows m, []) → h2.2.1 31 0 = 0 → h2.2.1 31 7 = s → h2.2.1 31 8 = b → h2.2.1 31 9 = rows → h2.2.1 31 10 = m → h2.2.1 31 11 = b → Q (some (.int (zI (wfile b s g w t f rows m).length))) h2) : fx_Mt l M_MO_write (0, 0) [.ref 31, .int (zI s), .int (zI b), .int (zI rows)] h Q := by
  have ht4 : t ≤ 24 := hp.2.2.2.2.1
  have hgg := hp.1
  have hrl := hr.le
  have hr1 := hr.1
  have hr2 := hr.2.1
  have hs5 := hs.1
  have hd : (t + rows - 1) / rows = (m : Int) := hr.2.2.symm
  have hge := hr.ge
  have hstm := stp_R (L := whead b) hp hs hr (whead_len b) (whead_isB b) m (Nat.le_refl _)
  have hla : ∀ i : Nat, i ≤ m → ((stp s g w t f rows (whead b) i).length : Int) ≤ 8 + 68 * 24 := fun i hi => by
    have := (stp_R (L := whead b) hp hs hr (whead_len b) (whead_isB b) i hi).2.2
    split at this <;> omega
  refine v15 hS (by omega) (by omega) hg hgg ht (by omega) (fun q => absurd ⟨hs5, hr1, hr2⟩ q) (fun _ => ?_)
  rw [if_neg (by rintro ⟨z1, z2⟩; have := hs.2 z1; omega)]
  refine w_MO_write_61 hS (m_refused hS (Or.inl rfl) (Or.inl rfl) ?_)
  rw [if_neg (by omega), if_neg (by omega), if_neg (by omega)]
  refine ⟨0, rfl, rfl, by omega, fun _ => ?_, fun z => absurd rfl z⟩
  have e1 : (fx_uF h 31 0 0).2.1 31 1 = g := by rw [uF_n _ _ (by omega)]; exact hg
  have e2 : (fx_uF h 31 0 0).2.1 31 2 = w := by rw [uF_n _ _ (by omega)]; exact hw
  have e3 : (fx_uF h 31 0 0).2.1 31 3 = t := by rw [uF_n _ _ (by omega)]; exact ht
  rw [e1, e2, e3]
  generalize hh0 : fx_uF (fx_uF (fx_uF (fx_uF (fx_uF (fx_uF (fx_uF (fx_uF h 31 0 0) 31 12 s) 31 11 b) 31 13 rows) 31 14 g) 31 15 w) 31 16 t) 31 5 0 = h0
  have m0 : mo wA wF h h0 := by rw [← hh0]; exact ((((((((mo.uF (by omega)).tr (mo.uF (by omega))).tr (mo.uF (by omega))).tr (mo.uF (by omega))).tr (mo.uF (by omega))).tr (mo.uF (by omega))).tr (mo.uF (by omega))).tr (mo.uF (by omega)))
  have hS0 := m0.S.trans hS
  have f0 : h0.2.1 31 0 = 0 := by rw [← hh0]; simp only [uF_n _ _ (show ¬ ((31 : Nat) = 31 ∧ (0 : Nat) = 5) by omega), uF_n _ _ (show ¬ ((31 : Nat) = 31 ∧ (0 : Nat) = 16) by omega), uF_n _ _ (show ¬ ((31 : Nat) = 31 ∧ (0 : Nat) = 15) by omega), uF_n _ _ (show ¬ ((31 : Nat) = 31 ∧ (0 : Nat) = 14) by omega), uF_n _ _ (show ¬ ((31 : Nat) = 31 ∧ (0 : Nat) = 13) by omega), uF_n _ _ (show ¬ ((31 : Nat) = 31 ∧ (0 : Nat) = 11) by omega), uF_n _ _ (show ¬ ((31 : Nat) = 31 ∧ (0 : Nat) = 12) by omega), uF_s]
  have f12 : h0.2.1 31 12 = s := by rw [← hh0, uF_n _ _ (by omega), uF_n _ _ (by omega), uF_n _ _ (by omega), uF_n _ _ (by omega), uF_n _ _ (by omega), uF_n _ _ (by omega), uF_s]
  have f11 : h0.2.1 31 11 = b := by rw [← hh0, uF_n _ _ (by omega), uF_n _ _ (by omega), uF_n _ _ (by omega), uF_n _ _ (by omega), uF_n _ _ (by omega), uF_s]
  have f13 : h0.2.1 31 13 = rows := by rw [← hh0, uF_n _ _ (by omega), uF_n _ _ (by omega), uF_n _ _ (by omega), uF_n _ _ (by omega), uF_s]
  have f14 : h0.2.1 31 14 = g := by rw [← hh0, uF_n _ _ (by omega), uF_n _ _ (by omega), uF_n _ _ (by omega), uF_s]
  have f15 : h0.2.1 31 15 = w := by rw [← hh0, uF_n _ _ (by omega), uF_n _ _ (by omega), uF_s]
  have f16 : h0.2.1 31 16 = t := by rw [← hh0, uF_n _ _ (by omega), uF_s]
  have w0 : mW h0 ([], []) := by
    rw [← hh0]
    refine ⟨by rw [uF_s]; rfl, ?_, ?_, fun i hi => by simp at hi⟩
    · rw [uF_n _ _ (by omega), uF_n _ _ (by omega), uF_n _ _ (by omega), uF_n _ _ (by omega), uF_n _ _ (by omega), uF_n _ _ (by omega), uF_n _ _ (by omega), uF_n _ _ (by omega)]; exact h18
    · rw [uF_n _ _ (by omega), uF_n _ _ (by omega), uF_n _ _ (by omega), uF_n _ _ (by omega), uF_n _ _ (by omega), uF_n _ _ (by omega), uF_n _ _ (by omega), uF_n _ _ (by omega)]; exact h19
  have p0 : mP h0 g w t f := ⟨f14, f15, f16, fun x y h1 h2 h3 h4 => by rw [m0.1.2.2.1 32 _ (by omega)]; exact hpx x y h1 h2 h3 h4, hp⟩
  have mc0 : mC h0 := mc.mo m0 (by omega)
  -- the tags
  have fin : ∀ (h3 : fx_H), mo wA wF h h3 → mP h3 g w t f → h3.2.1 31 0 = 0 → h3.2.1 31 11 = b → h3.2.1 31 12 = s → h3.2.1 31 13 = rows → h3.2.2.1 41 0 = ((stp s g w t f rows (whead b) 0).length : Int) → h3.2.2.1 42 0 = ((stp s g w t f rows (whead b) 1).length : Int) - (stp s g w t f rows (whead b) 0).length →
      mW h3 (weven (wbes b (stp s g w t f rows (whead b) m) (fun i => ((stp s g w t f rows (whead b) i).length : Int)) (fun i => ((stp s g w t f rows (whead b) (i + 1)).length : Int) - (stp s g w t f rows (whead b) i).length) m), []) →
      fx_Mt l M_MO_outNumber (0, 0) [.ref 31, .int (zI (h3.2.1 31 5)), .int (zI 4)] (fx_uF h3 31 5 4) (fun v h8 => v = none ∧ h8.1 = (fx_uF h3 31 5 4).1 ∧ fx_Mt l M_MO_outTags (0, 0) [.ref 31, .int (zI (m : Nat)), .int (zI ((stp s g w t f rows (whead b) m).length : Int))] (fx_uF h8 31 5 (h3.2.1 31 5)) (fun v h10 => v = none ∧ h10.1 = (fx_uF h8 31 5 (h3.2.1 31 5)).1 ∧ fx_Mt l M_MO_note (0, 0) [.ref 31, .int (zI (m : Nat))] h10 (fun v h12 => v = none ∧ h12.1 = h10.1 ∧ Q (some (.int (zI (h12.2.1 31 5)))) h12))) := by
    intro h3 c3 p3 g0 g11 g12 g13 g41 g42 w3
    have hS3 := c3.S.trans hS
    have hlen : h3.2.1 31 5 = ((weven (wbes b (stp s g w t f rows (whead b) m) (fun i => ((stp s g w t f rows (whead b) i).length : Int)) (fun i => ((stp s g w t f rows (whead b) (i + 1)).length : Int) - (stp s g w t f rows (whead b) i).length) m)).length : Int) := w3.1
    have h9 := weven_R (wbes b (stp s g w t f rows (whead b) m) (fun i => ((stp s g w t f rows (whead b) i).length : Int)) (fun i => ((stp s g w t f rows (whead b) (i + 1)).length : Int) - (stp s g w t f rows (whead b) i).length) m)
    have h8 : (stp s g w t f rows (whead b) m).length ≤ (wbes b (stp s g w t f rows (whead b) m) (fun i => ((stp s g w t f rows (whead b) i).length : Int)) (fun i => ((stp s g w t f rows (whead b) (i + 1)).length : Int) - (stp s g w t f rows (whead b) i).length) m).length ∧ (wbes b (stp s g w t f rows (whead b) m) (fun i => ((stp s g w t f rows (whead b) i).length : Int)) (fun i => ((stp s g w t f rows (whead b) (i + 1)).length : Int) - (stp s g w t f rows (whead b) i).length) m).length ≤ (stp s g w t f rows (whead b) m).length + 8 * m := by
      unfold wbes; split
      · omega
      · simp [longs_len]; omega
    have hm8 := hstm.2.1
    have hmm := hla m (Nat.le_refl _)
    have h0z := hla 0 (by omega)
    have h1z := hla 1 hrl.1
    rw [hlen]
    generalize hX : weven (wbes b (stp s g w t f rows (whead b) m) (fun i => ((stp s g w t f rows (whead b) i).length : Int)) (fun i => ((stp s g w t f rows (whead b) (i + 1)).length : Int) - (stp s g w t f rows (whead b) i).length) m) = X at *
    have eb : (fx_uF h3 31 5 4).2.1 31 11 = b := by rw [uF_n _ _ (by omega)]; exact g11
    refine m_patch (h := fx_uF h3 31 5 4) hS3 (uF_s _ _ _ _) (L := X) w3.2.2.2 (by rw [eb]; exact hb) (by omega) (by omega) (by omega) fun h4 c4 f4 => ⟨rfl, c4.S, ?_⟩
    rw [eb] at f4
    have c34 : mo wA wF h3 (fx_uF h4 31 5 (X.length : Int)) := ((mo.uF (by omega)).tr (c4.mono (fun j z => by omega) (fun j z => by omega))).tr (mo.uF (by omega))
    have keep : ∀ k : Nat, k ≠ 5 → (fx_uF h4 31 5 (X.length : Int)).2.1 31 k = h3.2.1 31 k := fun k hk => by rw [uF_n _ _ (by omega), c4.2 k hk, uF_n _ _ (by omega)]
    have keepA : ∀ q k : Nat, q ≠ 33 → q ≠ 31 → (fx_uF h4 31 5 (X.length : Int)).2.2.1 q k = h3.2.2.1 q k := fun q k h1 h2 => c4.1.2.2.1 q k (by omega)
    have w4 : mW (fx_uF h4 31 5 (X.length : Int)) (patJ b X.length 4 0 X, []) := by
      refine ⟨?_, ?_, ?_, f4⟩
      · rw [uF_s, patJ_len]
      · rw [keep 18 (by omega)]; exact w3.2.1
      · rw [keep 19 (by omega)]; exact w3.2.2.1
    have p4 : mP (fx_uF h4 31 5 (X.length : Int)) g w t f := ⟨(keep 14 (by omega)).trans p3.1, (keep 15 (by omega)).trans p3.2.1, (keep 16 (by omega)).trans p3.2.2.1, fun x y i1 i2 i3 i4 => by rw [keepA 32 _ (by omega) (by omega)]; exact p3.2.2.2.1 x y i1 i2 i3 i4, hp⟩
    refine m_outTags (h := fx_uF h4 31 5 (X.length : Int)) (c4.S.trans hS3) p4 w4 ((keep 11 (by omega)).trans g11) hb ((keep 12 (by omega)).trans g12) (by omega) ((keep 13 (by omega)).trans g13) (by omega) (by omega) ((keepA 41 0 (by omega) (by omega)).trans g41) ((keepA 42 0 (by omega) (by omega)).trans g42) (by omega) (by omega) (by omega) (by rw [patJ_len]; omega) fun h5 c5 w5 => ⟨rfl, c5.S, ?_⟩
    have hS5 : h5.1 = fx_S0 a pp dd := c5.S.trans (c4.S.trans hS3)
    have w5' : mW h5 (wfile b s g w t f rows m, []) := by
      unfold wfile
      simp only
      rw [hX]
      exact w5
    have k11 : h5.2.1 31 11 = b := (c5.2 11 (by omega)).trans ((keep 11 (by omega)).trans g11)
    have k12 : h5.2.1 31 12 = s := (c5.2 12 (by omega)).trans ((keep 12 (by omega)).trans g12)
    have k13 : h5.2.1 31 13 = rows := (c5.2 13 (by omega)).trans ((keep 13 (by omega)).trans g13)
    have k0 : h5.2.1 31 0 = 0 := (c5.2 0 (by omega)).trans ((keep 0 (by omega)).trans g0)
    have done : ∀ o : Int, o = b → Q (some (.int (zI ((fx_uF (fx_uF (fx_uF (fx_uF h5 31 7 s) 31 8 o) 31 9 rows) 31 10 m).2.1 31 5)))) (fx_uF (fx_uF (fx_uF (fx_uF h5 31 7 s) 31 8 o) 31 9 rows) 31 10 m) := by
      intro o ho
      subst ho
      have nn : ∀ k : Nat, ¬ (7 ≤ k ∧ k ≤ 10) → (fx_uF (fx_uF (fx_uF (fx_uF h5 31 7 s) 31 8 o) 31 9 rows) 31 10 m).2.1 31 k = h5.2.1 31 k := fun k hk => by rw [uF_n _ _ (by omega), uF_n _ _ (by omega), uF_n _ _ (by omega), uF_n _ _ (by omega)]
      rw [nn 5 (by omega), w5'.1]
      refine k _ (((c3.tr c34).tr c5.ow).tr ((((mo.uF (by omega)).tr (mo.uF (by omega))).tr (mo.uF (by omega))).tr (mo.uF (by omega)))) ⟨by rw [nn 5 (by omega)]; exact w5'.1, by rw [nn 18 (by omega)]; exact w5'.2.1, by rw [nn 19 (by omega)]; exact w5'.2.2.1, w5'.2.2.2⟩ (by rw [nn 0 (by omega)]; exact k0) ?_ ?_ ?_ ?_ (by rw [nn 11 (by omega)]; exact k11)
      · rw [uF_n _ _ (by omega), uF_n _ _ (by omega), uF_n _ _ (by omega), uF_s]
      · rw [uF_n _ _ (by omega), uF_n _ _ (by omega), uF_s]
      · rw [uF_n _ _ (by omega), uF_s]
      · rw [uF_s]
    refine e_MO_note hS5 ?_
    rw [k11, k12, k13]
    exact ⟨by omega, fun z => ⟨rfl, rfl, done 0 z.symm⟩, fun z => ⟨rfl, rfl, done 1 (by omega)⟩⟩
  -- behind the strips
  have beside : ∀ (h3 : fx_H), mo wA wF h h3 → mP h3 g w t f → h3.2.1 31 0 = 0 → h3.2.1 31 11 = b → h3.2.1 31 12 = s → h3.2.1 31 13 = rows → mW h3 (stp s g w t f rows (whead b) m, []) → (∀ i : Nat, i < m → h3.2.2.1 41 i = ((stp s g w t f rows (whead b) i).length : Int) ∧ h3.2.2.1 42 i = ((stp s g w t f rows (whead b) (i + 1)).length : Int) - (stp s g w t f rows (whead b) i).length) →
      fx_V l M_MO_write (0, 0) Q 0 0 259 [some (.ref 31), none, none, none, none, some (.int (zI (m : Nat))), some (.int (zI ((stp s g w t f rows (whead b) m).length : Int))), some (.int (zI 0))] [] h3 := by
    intro h3 c3 p3 g0 g11 g12 g13 w3 d3
    have hmm := hla m (Nat.le_refl _)
    -- the even place
    have even : ∀ (h4 : fx_H), mo oA oF h3 h4 → mW h4 (wbes b (stp s g w t f rows (whead b) m) (fun i => ((stp s g w t f rows (whead b) i).length : Int)) (fun i => ((stp s g w t f rows (whead b) (i + 1)).length : Int) - (stp s g w t f rows (whead b) i).length) m, []) → 0 ≤ (h4.2.1 31 5) ∧ zR (h4.2.1 31 5) ∧ zR ((h4.2.1 31 5) % 2) ∧ ((¬ ((h4.2.1 31 5) % 2) = 1 → fx_Mt l M_MO_outNumber (0, 0) [.ref 31, .int (zI (h4.2.1 31 5)), .int (zI 4)] (fx_uF h4 31 5 4) (fun v h8 => v = none ∧ h8.1 = (fx_uF h4 31 5 4).1 ∧ fx_Mt l M_MO_outTags (0, 0) [.ref 31, .int (zI (m : Nat)), .int (zI ((stp s g w t f rows (whead b) m).length : Int))] (fx_uF h8 31 5 (h4.2.1 31 5)) (fun v h10 => v = none ∧ h10.1 = (fx_uF h8 31 5 (h4.2.1 31 5)).1 ∧ fx_Mt l M_MO_note (0, 0) [.ref 31, .int (zI (m : Nat))] h10 (fun v h12 => v = none ∧ h12.1 = h10.1 ∧ Q (some (.int (zI (h12.2.1 31 5)))) h12)))) ∧ (((h4.2.1 31 5) % 2) = 1 → fx_Mt l M_MO_out (0, 0) [.ref 31, .int (zI 0)] h4 (fun v h14 => v = none ∧ h14.1 = h4.1 ∧ (fx_V l M_MO_write (0, 0) Q 0 0 327 [some (.ref 31), none, none, none, none, some (.int (zI (m : Nat))), some (.int (zI ((stp s g w t f rows (whead b) m).length : Int))), none] [] h14)))) := by
      intro h4 c4 w4
      have hl4 : h4.2.1 31 5 = ((wbes b (stp s g w t f rows (whead b) m) (fun i => ((stp s g w t f rows (whead b) i).length : Int)) (fun i => ((stp s g w t f rows (whead b) (i + 1)).length : Int) - (stp s g w t f rows (whead b) i).length) m).length : Int) := w4.1
      have h8 : (wbes b (stp s g w t f rows (whead b) m) (fun i => ((stp s g w t f rows (whead b) i).length : Int)) (fun i => ((stp s g w t f rows (whead b) (i + 1)).length : Int) - (stp s g w t f rows (whead b) i).length) m).length ≤ (stp s g w t f rows (whead b) m).length + 8 * m := by
        unfold wbes; split
        · omega
        · simp [longs_len]; omega
      have call : ∀ h5, mo oA oF h3 h5 → mW h5 (weven (wbes b (stp s g w t f rows (whead b) m) (fun i => ((stp s g w t f rows (whead b) i).length : Int)) (fun i => ((stp s g w t f rows (whead b) (i + 1)).length : Int) - (stp s g w t f rows (whead b) i).length) m), []) → _ := fun h5 c5 w5 => fin h5 (c3.tr c5.ow) (p3.mo c5 (by omega) ⟨by omega, by omega, by omega⟩) ((c5.2 0 (by omega)).trans g0) ((c5.2 11 (by omega)).trans g11) ((c5.2 12 (by omega)).trans g12) ((c5.2 13 (by omega)).trans g13) (by rw [c5.1.2.2.1 41 0 (by omega)]; exact (d3 0 hrl.1).1) (by rw [c5.1.2.2.1 42 0 (by omega)]; exact (d3 0 hrl.1).2) w5
      refine ⟨by omega, by omega, by omega, fun z => call h4 c4 ?_, fun z => ?_⟩
      · unfold weven; rw [if_neg (by omega)]; exact w4
      · refine m_out (c4.S.trans (c3.S.trans hS)) w4 (by omega) fun h5 c5 w5 => ⟨rfl, c5.S, ?_⟩
        refine w_MO_write_327 (c5.S.trans (c4.S.trans (c3.S.trans hS))) (call h5 (c4.tr c5) ?_)
        unfold weven; rw [if_pos (by omega)]; exact w5
    by_cases hm1 : m = 1
    · have ev := even h3 mo.rf (by unfold wbes; rw [if_pos hm1]; exact w3)
      refine w_MO_write_259 (c3.S.trans hS) ⟨by omega, by omega, fun z => by omega, fun _ => ⟨by omega, fun _ => ev, fun z => by omega⟩⟩
    · -- sizes, then places before them
      have sizes : ∀ (j i : Nat) (h4 : fx_H) (L4 : List Int), i + j = m → L4.length + 4 * j ≤ 1990 → mo oA oF h3 h4 → mW h4 (L4, []) → (∀ h5, mo oA oF h3 h5 → mW h5 (L4 ++ longs b (fun i => ((stp s g w t f rows (whead b) (i + 1)).length : Int) - (stp s g w t f rows (whead b) i).length) j i, []) → mW h5 (wbes b (stp s g w t f rows (whead b) m) (fun i => ((stp s g w t f rows (whead b) i).length : Int)) (fun i => ((stp s g w t f rows (whead b) (i + 1)).length : Int) - (stp s g w t f rows (whead b) i).length) m, [])) →
          fx_V l M_MO_write (0, 0) Q 0 0 259 [some (.ref 31), none, none, none, none, some (.int (zI (m : Nat))), some (.int (zI ((stp s g w t f rows (whead b) m).length : Int))), some (.int (zI ((m : Int) + (i : Nat))))] [] h4 := by
        intro j
        induction j with
        | zero =>
          intro i h4 L4 hi hl c4 w4 fw
          have ev := even h4 c4 (fw h4 c4 (by simpa [longs] using w4))
          exact w_MO_write_259 (c4.S.trans (c3.S.trans hS)) ⟨by omega, by omega, fun _ => ev, fun z => by omega⟩
        | succ j ih =>
          intro i h4 L4 hi hl c4 w4 fw
          have hS4 := c4.S.trans (c3.S.trans hS)
          have i1 := hla i (by omega)
          have i2 := hla (i + 1) (by omega)
          refine w_MO_write_259 hS4 ⟨by omega, by omega, fun z => by omega, fun _ => ⟨by omega, fun z => by omega, fun _ => ⟨fun _ => ⟨by omega, by omega, ?_⟩, fun z => by omega⟩⟩⟩
          refine w_MO_write_302 hS4 ?_
          rw [show ((m : Int) + (i : Nat) - (m : Int)).toNat = i by omega, c4.1.2.2.1 42 i (by omega), (d3 i (by omega)).2]
          refine m_onum 4 hS4 w4 ((c4.2 11 (by omega)).trans g11) hb (by omega) (by omega) (by omega) fun h5 c5 w5 => ⟨rfl, c5.S, ?_⟩
          have e : (m : Int) + ((i : Nat) : Int) + 1 = (m : Int) + ((i + 1 : Nat) : Int) := by omega
          rw [e]
          refine ih (i + 1) h5 _ (by omega) (by simp [wnum_len]; omega) (c4.tr c5) w5 fun h6 c6 w6 => fw h6 c6 ?_
          rw [longs, ← List.append_assoc]; exact w6
      have places : ∀ (j i : Nat) (h4 : fx_H) (L4 : List Int), i + j = m → L4.length + 4 * j + 4 * m ≤ 1990 → mo oA oF h3 h4 → mW h4 (L4, []) → (∀ h5, mo oA oF h3 h5 → mW h5 ((L4 ++ longs b (fun i => ((stp s g w t f rows (whead b) i).length : Int)) j i) ++ longs b (fun i => ((stp s g w t f rows (whead b) (i + 1)).length : Int) - (stp s g w t f rows (whead b) i).length) m 0, []) → mW h5 (wbes b (stp s g w t f rows (whead b) m) (fun i => ((stp s g w t f rows (whead b) i).length : Int)) (fun i => ((stp s g w t f rows (whead b) (i + 1)).length : Int) - (stp s g w t f rows (whead b) i).length) m, [])) →
          fx_V l M_MO_write (0, 0) Q 0 0 259 [some (.ref 31), none, none, none, none, some (.int (zI (m : Nat))), some (.int (zI ((stp s g w t f rows (whead b) m).length : Int))), some (.int (zI (i : Nat)))] [] h4 := by
        intro j
        induction j with
        | zero =>
          intro i h4 L4 hi hl c4 w4 fw
          have hi2 : i = m := by omega
          have := sizes m 0 h4 L4 (Nat.zero_add _) (by omega) c4 w4 fun h5 c5 w5 => fw h5 c5 (by simpa [longs] using w5)
          rw [hi2]
          simpa using this
        | succ j ih =>
          intro i h4 L4 hi hl c4 w4 fw
          have hS4 := c4.S.trans (c3.S.trans hS)
          have i1 := hla i (by omega)
          refine w_MO_write_259 hS4 ⟨by omega, by omega, fun z => by omega, fun _ => ⟨by omega, fun z => by omega, fun _ => ⟨fun z => by omega, fun _ => ⟨by omega, by omega, ?_⟩⟩⟩⟩
          refine w_MO_write_302 hS4 ?_
          rw [Int.toNat_natCast, c4.1.2.2.1 41 i (by omega), (d3 i (by omega)).1]
          refine m_onum 4 hS4 w4 ((c4.2 11 (by omega)).trans g11) hb (by omega) (by omega) (by omega) fun h5 c5 w5 => ⟨rfl, c5.S, ?_⟩
          have e : ((i : Nat) : Int) + 1 = ((i + 1 : Nat) : Int) := by omega
          rw [e]
          refine ih (i + 1) h5 _ (by omega) (by simp [wnum_len]; omega) (c4.tr c5) w5 fun h6 c6 w6 => fw h6 c6 ?_
          rw [longs, ← List.append_assoc]; exact w6
      exact places m 0 h3 _ (Nat.zero_add _) (by omega) mo.rf w3 fun h5 c5 w5 => by unfold wbes; rw [if_neg hm1]; exact w5
  -- the strips
  have strips : ∀ (j i : Nat) (h3 : fx_H), i + j = m → mo wA wF h h3 → mP h3 g w t f → h3.2.1 31 0 = 0 → h3.2.1 31 11 = b → h3.2.1 31 12 = s → h3.2.1 31 13 = rows → mW h3 (stp s g w t f rows (whead b) i, []) → (∀ i2 : Nat, i2 < i → h3.2.2.1 41 i2 = ((stp s g w t f rows (whead b) i2).length : Int) ∧ h3.2.2.1 42 i2 = ((stp s g w t f rows (whead b) (i2 + 1)).length : Int) - (stp s g w t f rows (whead b) i2).length) →
      fx_V l M_MO_write (0, 0) Q 0 0 183 [some (.ref 31), none, none, none, none, some (.int (zI (m : Nat))), some (.int (zI (i : Nat))), none] [] h3 := by
    intro j
    induction j with
    | zero =>
      intro i h3 hi c3 p3 g0 g11 g12 g13 w3 d3
      have hi2 : i = m := by omega
      rw [hi2] at w3 d3 ⊢
      have bs := beside h3 c3 p3 g0 g11 g12 g13 w3 d3
      refine w_MO_write_183 (c3.S.trans hS) ⟨by omega, by omega, fun _ => ?_, fun z => by omega⟩
      rw [w3.1]; exact bs
    | succ j ih =>
      intro i h3 hi c3 p3 g0 g11 g12 g13 w3 d3
      have hS3 := c3.S.trans hS
      have hn := nst_R hr (show i < m by omega)
      have hlt := hr.lt (show i < m by omega)
      have hst := stp_R (L := whead b) hp hs hr (whead_len b) (whead_isB b) i (by omega)
      have hi0 : 0 ≤ (i : Int) * rows := Int.mul_nonneg (by omega) (by omega)
      have e1 : ((i : Int) + 1) * rows = i * rows + rows := by rw [Int.add_mul, Int.one_mul]
      have hst2 : ((stp s g w t f rows (whead b) i).length : Int) ≤ 8 + 68 * (i * rows) := by have := hst.2.2; rw [if_pos hlt] at this; exact this
      have hl3 : h3.2.1 31 5 = ((stp s g w t f rows (whead b) i).length : Int) := w3.1
      refine w_MO_write_183 hS3 ⟨by omega, by omega, fun z => by omega, fun _ => ⟨by omega, by omega, ?_⟩⟩
      rw [p3.2.2.1, g13, Int.toNat_natCast]
      have c4 : mo wA wF h3 (fx_uA h3 41 i (h3.2.1 31 5)) := mo.uA (by omega)
      have go : ∀ r8 : Int, r8 = ((nst t rows i : Nat) : Int) → fx_Mt l M_MO_outStrip (0, 0) [.ref 31, .int (zI ((i : Nat) * rows)), .int (zI r8)] (fx_uA h3 41 i (h3.2.1 31 5)) (fun v h9 => v = none ∧ h9.1 = (fx_uA h3 41 i (h3.2.1 31 5)).1 ∧ 0 ≤ ((i : Nat) : Int) ∧ ((i : Nat) : Int) < 24 ∧ 0 ≤ ((i : Nat) : Int) ∧ ((i : Nat) : Int) < 24 ∧ (fx_V l M_MO_write (0, 0) Q 0 0 183 [some (.ref 31), none, none, none, none, some (.int (zI (m : Nat))), some (.int (zI (((i : Nat) : Int) + 1))), none] [] (fx_uA h9 42 i ((h9.2.1 31 5) - (h9.2.2.1 41 i))))) := by
        intro r8 hr8
        subst hr8
        have p4 : mP (fx_uA h3 41 i (h3.2.1 31 5)) g w t f := p3.uA (by omega)
        refine m_outStrip (h := fx_uA h3 41 i (h3.2.1 31 5)) (sc := s) (L := stp s g w t f rows (whead b) i) hS3 p4 ((mc.mo c3 (by omega)).mo c4 (by omega)) g12 hs (w3.uA (by omega)) hst.1 hi0 hn.1 hn.2.1 (by omega) fun h5 c5 w5 => ⟨rfl, c5.S, by omega, by omega, by omega, by omega, ?_⟩
        have e : ((i : Nat) : Int) + 1 = ((i + 1 : Nat) : Int) := by omega
        have hl5 : h5.2.1 31 5 = ((wst s g w f (↑i * rows) (nst t rows i) (stp s g w t f rows (whead b) i)).length : Int) := w5.1
        have h541 : h5.2.2.1 41 i = ((stp s g w t f rows (whead b) i).length : Int) := by rw [c5.1.2.2.1 41 i (by omega), uA_s, hl3]
        have c6 : mo wA wF h5 (fx_uA h5 42 i (h5.2.1 31 5 - h5.2.2.1 41 i)) := mo.uA (by omega)
        rw [e]
        refine ih (i + 1) _ (by omega) (((c3.tr c4).tr c5.xw).tr c6) ((p4.mo c5 (by omega) ⟨by omega, by omega, by omega⟩).uA (by omega)) ((c5.2 0 (by omega)).trans g0) ((c5.2 11 (by omega)).trans g11) ((c5.2 12 (by omega)).trans g12) ((c5.2 13 (by omega)).trans g13) (w5.uA (by omega)) fun i2 hi2 => ?_
        by_cases h9 : i2 = i
        · subst h9
          refine ⟨?_, ?_⟩
          · rw [uA_n _ _ (by omega)]; exact h541
          · rw [uA_s, hl5, h541]; rfl
        · have d9 := d3 i2 (by omega)
          refine ⟨?_, ?_⟩
          · rw [uA_n _ _ (by omega), c5.1.2.2.1 41 i2 (by omega), uA_n _ _ (by omega)]; exact d9.1
          · rw [uA_n _ _ (by omega), c5.1.2.2.1 42 i2 (by omega), uA_n _ _ (by omega)]; exact d9.2
      have hnn := hn.2.2
      rw [e1] at hnn
      refine e_MO_rowsOf (h := fx_uA h3 41 i (h3.2.1 31 5)) hS3 ⟨by omega, by omega, fun z => ⟨_, rfl, rfl, go _ ?_⟩, fun z => ⟨_, rfl, rfl, go _ ?_⟩⟩
      · split at hnn <;> omega
      · split at hnn <;> omega
  -- the header
  have head : ∀ (h3 : fx_H) (c : Int), c = (if b = 0 then 73 else 77) → mo oA oF h0 h3 → mW h3 ([(if b = 0 then 73 else 77)], []) → fx_V l M_MO_write (0, 0) Q 0 0 146 [some (.ref 31), none, none, none, none, none, none, none] [.int (zI c), .ref 31] h3 := by
    intro h3 c hc c3 w3
    subst hc
    have hS3 := c3.S.trans hS0
    have hc2 : (if b = 0 then (73 : Int) else 77) % 256 = (if b = 0 then 73 else 77) := by split <;> rfl
    refine w_MO_write_146 hS3 ?_
    refine m_out hS3 w3 (by simp) fun h4 c4 w4 => ⟨rfl, c4.S, ?_⟩
    rw [hc2] at w4
    have c34 := c3.tr c4
    refine m_onum 2 (c34.S.trans hS0) w4 ((c34.2 11 (by omega)).trans f11) hb (by omega) (by omega) (by simp) fun h5 c5 w5 => ⟨rfl, c5.S, ?_⟩
    have c35 := c34.tr c5
    refine m_onum 4 (c35.S.trans hS0) w5 ((c35.2 11 (by omega)).trans f11) hb (by omega) (by omega) (by simp [wnum_len]) fun h6 c6 w6 => ⟨rfl, c6.S, ?_⟩
    have c36 := c35.tr c6
    rw [(c36.2 16 (by omega)).trans f16, (c36.2 13 (by omega)).trans f13]
    refine ⟨by omega, by omega, by omega, by omega, ?_⟩
    rw [hd]
    refine strips m 0 h6 (Nat.zero_add _) (m0.tr c36.ow) (p0.mo c36 (by omega) ⟨by omega, by omega, by omega⟩) ((c36.2 0 (by omega)).trans f0) ((c36.2 11 (by omega)).trans f11) ((c36.2 12 (by omega)).trans f12) ((c36.2 13 (by omega)).trans f13) w6 fun i2 hi2 => by omega
  have first : ∀ c : Int, c = (if b = 0 then 73 else 77) → fx_V l M_MO_write (0, 0) Q 0 0 128 [some (.ref 31), none, none, none, none, none, none, none] [.int (zI c), .ref 31] h0 := by
    intro c hc
    subst hc
    have hc2 : (if b = 0 then (73 : Int) else 77) % 256 = (if b = 0 then 73 else 77) := by split <;> rfl
    refine w_MO_write_128 hS0 ?_
    refine m_out hS0 w0 (by simp) fun h4 c4 w4 => ⟨rfl, c4.S, ?_⟩
    rw [hc2] at w4
    rw [(c4.2 11 (by omega)).trans f11]
    exact ⟨by omega, fun z => head h4 _ (by rw [if_pos z]) c4 w4, fun z => head h4 _ (by rw [if_neg z]) c4 w4⟩
  exact ⟨hb, hgg, by omega, fun z => first _ (by rw [if_pos z]), fun z => first _ (by rw [if_neg z])⟩
end MZ
