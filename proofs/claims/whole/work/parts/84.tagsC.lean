/-! the class understands the tags -/
def inOK (L : List Int) (b : Int) : Prop := ∀ i : Nat, (i : Int) < rmm L b → tval L b (tT L b 5) i + tval L b (tT L b 7) i ≤ L.length
theorem rg_01 (L : List Int) (b : Int) : rg L b = 0 ∨ rg L b = 1 := by unfold rg; split <;> omega
section TH
variable {l : Launch} {Q : Option Value → fx_H → Prop} {h : fx_H} {a : Nat → Nat} {pp dd : Nat} {L : List Int} {b : Int}
theorem cT9.sm {P : Nat → Prop} {h h2 : fx_H} (c : cT9 h L b) (s : sm P h h2) (hP : ¬ P 12) : cT9 h2 L b := fun k hk => by rw [s.2.2.1 12 k hP]; exact c k hk
theorem m_understandPicture (hS : h.1 = fx_S0 a pp dd) (c : cL h L b) (hst : stOK L b) (ht : cT9 h L b) (k1 : picOK L b → ∀ h2, sm (fun j => j = 11) h h2 → h2.2.1 11 2 = rg L b → h2.2.1 11 3 = ov L b 0 → h2.2.1 11 4 = ov L b 1 → Q (some (.int (zI 1))) h2) (k0 : ¬ picOK L b → ∀ h2, sm (fun j => j = 11) h h2 → Q (some (.int (zI 0))) h2) : fx_Mt l M_TG_understandPicture (0, 0) [.ref 11] h Q := by
  have hB := c.2.2.2.2
  have r2 := ov_R (b := b) hB 2
  have r0 := ov_R (b := b) hB 0
  have r1 := ov_R (b := b) hB 1
  have r4 := ov_R (b := b) hB 4
  refine e_TG_understandPicture hS (m_onlyValue 2 (by omega) rfl hS c hst ht ⟨_, rfl, rfl, ?_⟩)
  refine m_onlyValue 0 (by omega) rfl hS c hst ht ⟨_, rfl, rfl, ?_⟩
  refine m_onlyValue 1 (by omega) rfl hS c hst ht ⟨_, rfl, rfl, by omega, ?_⟩
  have tail : ∀ v : Int, v = rg L b → (ov L b 2 = 1 ∨ ov L b 2 = 8) → fx_Mt l M_TG_onlyValue (0, 0) [.ref 11, .int (zI 262)] (fx_uF h 11 2 v) (fun u h13 => ∃ r15 : Int, u = some (.long (zL r15)) ∧ h13.1 = (fx_uF h 11 2 v).1 ∧ zR (h13.2.1 11 2) ∧ (((h13.2.1 11 2) = 0 → zRL r15 ∧ ((¬ (zC r15 0) = 0 → Q (some (.int (zI 0))) h13) ∧ ((zC r15 0) = 0 → fx_Mt l M_FP_sizeCanBe (0, 0) [.int (zI (h13.2.1 11 2)), .long (zL (ov L b 0)), .long (zL (ov L b 1))] h13 (fun u h20 => ∃ r22 : Int, u = some (.int (zI r22)) ∧ h20.1 = h13.1 ∧ zR r22 ∧ ((¬ r22 = 0 → Q (some (.int (zI 1))) (fx_uF (fx_uF h20 11 3 (ov L b 0)) 11 4 (ov L b 1))) ∧ (r22 = 0 → Q (some (.int (zI 0))) h20)))))) ∧ (¬ ((h13.2.1 11 2) = 0) → zRL r15 ∧ ((¬ (zC r15 1) = 0 → Q (some (.int (zI 0))) h13) ∧ ((zC r15 1) = 0 → fx_Mt l M_FP_sizeCanBe (0, 0) [.int (zI (h13.2.1 11 2)), .long (zL (ov L b 0)), .long (zL (ov L b 1))] h13 (fun u h27 => ∃ r29 : Int, u = some (.int (zI r29)) ∧ h27.1 = h13.1 ∧ zR r29 ∧ ((¬ r29 = 0 → Q (some (.int (zI 1))) (fx_uF (fx_uF h27 11 3 (ov L b 0)) 11 4 (ov L b 1))) ∧ (r29 = 0 → Q (some (.int (zI 0))) h27)))))))) := by
    intro v hv2 hbits
    have rgr := rg_01 L b
    have s1 : sm (fun j => j = 11) h (fx_uF h 11 2 v) := sm.uF rfl
    have e2 : (fx_uF h 11 2 v).2.1 11 2 = v := uF_s _ _ _ _
    refine m_onlyValue 4 (h := fx_uF h 11 2 v) (by omega) rfl hS (c.sm s1 (by omega) (by omega)) hst (ht.sm s1 (by omega)) ⟨_, rfl, rfl, ?_⟩
    rw [e2]
    have size : ov L b 4 = rg L b → fx_Mt l M_FP_sizeCanBe (0, 0) [.int (zI v), .long (zL (ov L b 0)), .long (zL (ov L b 1))] (fx_uF h 11 2 v) (fun u h20 => ∃ r22 : Int, u = some (.int (zI r22)) ∧ h20.1 = (fx_uF h 11 2 v).1 ∧ zR r22 ∧ ((¬ r22 = 0 → Q (some (.int (zI 1))) (fx_uF (fx_uF h20 11 3 (ov L b 0)) 11 4 (ov L b 1))) ∧ (r22 = 0 → Q (some (.int (zI 0))) h20))) := by
      intro h4
      refine m_sizeCanBe (h := fx_uF h 11 2 v) hS (by omega) (by omega) (by omega) (fun q => ⟨1, rfl, rfl, by omega, fun _ => ?_, fun z => by omega⟩) (fun q => ⟨0, rfl, rfl, by omega, fun z => absurd rfl z, fun _ => k0 (fun w => q (by rw [hv2]; exact w.2.2)) _ s1⟩)
      refine k1 ⟨hbits, h4, by rw [← hv2]; exact q⟩ _ ((s1.tr (sm.uF rfl)).tr (sm.uF rfl)) ?_ ?_ ?_
      · rw [uF_n _ _ (by omega), uF_n _ _ (by omega), uF_s]; exact hv2
      · rw [uF_n _ _ (by omega), uF_s]
      · rw [uF_s]
    refine ⟨by omega, fun z => ⟨by omega, fun z2 => k0 (fun w => z2 (zC_0.mpr (by have := w.2.1; omega))) _ s1, fun z2 => size (by have := zC_0.mp z2; omega)⟩, fun z => ⟨by omega, fun z2 => k0 (fun w => z2 (zC_0.mpr (by have := w.2.1; omega))) _ s1, fun z2 => size (by have := zC_0.mp z2; omega)⟩⟩
  have i8 := @zC_0 (ov L b 2) 8
  have i1 := @zC_0 (ov L b 2) 1
  refine ⟨fun z => ⟨fun z1 => tail 0 ?_ (by omega), fun z1 => ⟨fun z2 => k0 (fun w => by have := w.1; omega) _ (sm.uF rfl), fun z2 => absurd z2 z⟩⟩, fun z => ⟨fun z1 => by omega, fun z1 => ⟨fun z2 => absurd z z2, fun _ => tail 1 ?_ (by omega)⟩⟩⟩
  · unfold rg; rw [if_neg (by omega)]
  · unfold rg; rw [if_pos (by omega)]
theorem m_understandScheme (hS : h.1 = fx_S0 a pp dd) (c : cL h L b) (hst : stOK L b) (ht : cT9 h L b) (hg : h.2.1 11 2 = rg L b) (k1 : schOK L b → ∀ h2, sm (fun j => j = 11) h h2 → (∀ k, k ≠ 5 → h2.2.1 11 k = h.2.1 11 k) → h2.2.1 11 5 = ov L b 3 → Q (some (.int (zI 1))) h2) (k0 : ¬ schOK L b → ∀ h2, sm (fun j => j = 11) h h2 → Q (some (.int (zI 0))) h2) : fx_Mt l M_TG_understandScheme (0, 0) [.ref 11] h Q := by
  have hB := c.2.2.2.2
  have r3 := ov_R (b := b) hB 3
  have r8 := ov_R (b := b) hB 8
  have rgr := rg_01 L b
  have hT := tT_R hB hst 8
  have hlen := c.2.2.2.1
  refine e_TG_understandScheme hS (m_onlyValue 3 (by omega) rfl hS c hst ht ⟨_, rfl, rfl, ?_⟩)
  refine m_isScheme hS (by omega) (fun q => ⟨1, rfl, rfl, by omega, fun z => by omega, fun _ => ?_⟩) (fun q => ⟨0, rfl, rfl, by omega, fun _ => k0 (fun w => q w.1) h sm.rf, fun z => absurd rfl z⟩)
  have s1 : sm (fun j => j = 11) h (fx_uF h 11 5 (ov L b 3)) := sm.uF rfl
  have e5 : (fx_uF h 11 5 (ov L b 3)).2.1 11 5 = ov L b 3 := uF_s _ _ _ _
  have tail : ¬ (rg L b = 1 ∧ (ov L b 3 = 3 ∨ ov L b 3 = 4)) → fx_Mt l M_TG_placeOf (0, 0) [.ref 11, .int (zI 292)] (fx_uF h 11 5 (ov L b 3)) (fun u h11 => ∃ r13 : Int, u = some (.int (zI r13)) ∧ h11.1 = (fx_uF h 11 5 (ov L b 3)).1 ∧ zR r13 ∧ ((r13 = (-1) → zR (h11.2.1 11 5) ∧ (((h11.2.1 11 5) = 3 → Q (some (.int (zI 0))) h11) ∧ (¬ ((h11.2.1 11 5) = 3) → Q (some (.int (zI 1))) h11))) ∧ (¬ (r13 = (-1)) → fx_Mt l M_TG_onlyValue (0, 0) [.ref 11, .int (zI 292)] h11 (fun u h18 => ∃ r20 : Int, u = some (.long (zL r20)) ∧ h18.1 = h11.1 ∧ zRL r20 ∧ ((¬ (zC r20 1) = 0 → Q (some (.int (zI 0))) h18) ∧ ((zC r20 1) = 0 → Q (some (.int (zI 1))) h18)))))) := by
    intro nf
    refine m_placeOf 8 (h := fx_uF h 11 5 (ov L b 3)) (by omega) rfl hS ?_
    have t8 : (fx_uF h 11 5 (ov L b 3)).2.2.1 12 8 = tT L b 8 := ht 8 (by omega)
    rw [t8]
    refine ⟨_, rfl, rfl, by omega, fun z => ?_, fun z => ?_⟩
    · rw [e5]
      refine ⟨by omega, fun z2 => k0 (fun w => w.2.2.2 z z2) _ s1, fun z2 => k1 ⟨q, nf, fun z3 => absurd z z3, fun _ => z2⟩ _ s1 (fun k hk => uF_n _ _ (by omega)) e5⟩
    · refine m_onlyValue 8 (h := fx_uF h 11 5 (ov L b 3)) (by omega) rfl hS (c.sm s1 (by omega) (by omega)) hst (ht.sm s1 (by omega)) ⟨_, rfl, rfl, by omega, fun z2 => k0 (fun w => z2 (zC_0.mpr (w.2.2.1 z))) _ s1, fun z2 => k1 ⟨q, nf, fun _ => zC_0.mp z2, fun z3 => absurd z3 z⟩ _ s1 (fun k hk => uF_n _ _ (by omega)) e5⟩
  rw [hg]
  refine ⟨by omega, fun z => tail (by omega), fun z => ?_⟩
  refine m_isFax hS (by omega) (fun z4 => ⟨1, rfl, rfl, by omega, fun z5 => by omega, fun _ => k0 (fun w => w.2.1 ⟨by omega, z4⟩) h sm.rf⟩) (fun z4 => ⟨0, rfl, rfl, by omega, fun _ => tail (fun w => z4 w.2), fun z5 => absurd rfl z5⟩)
theorem m_understandStrips (hS : h.1 = fx_S0 a pp dd) (c : cL h L b) (hst : stOK L b) (ht : cT9 h L b) (hh : h.2.1 11 4 = ov L b 1) (h1 : 1 ≤ ov L b 1) (h24 : ov L b 1 ≤ 24) (k1 : strOK L b → ∀ h2, sm (fun j => j = 11) h h2 → (∀ k, k ≠ 6 → k ≠ 7 → h2.2.1 11 k = h.2.1 11 k) → h2.2.1 11 6 = ov L b 6 → h2.2.1 11 7 = rmm L b → Q (some (.int (zI 1))) h2) (k0 : ¬ strOK L b → ∀ h2, sm (fun j => j = 11) h h2 → Q (some (.int (zI 0))) h2) : fx_Mt l M_TG_understandStrips (0, 0) [.ref 11] h Q := by
  have hB := c.2.2.2.2
  have r6 := ov_R (b := b) hB 6
  refine e_TG_understandStrips hS (m_onlyValue 6 (by omega) rfl hS c hst ht ⟨_, rfl, rfl, by omega, fun z => k0 (fun w => by have := w.1; have := zC_lt.mp z; omega) h sm.rf, fun z => ?_⟩)
  have z1 : 1 ≤ ov L b 6 := by
    by_cases z9 : ov L b 6 < 1
    · exact absurd (zC_lt.mpr z9) z
    · omega
  rw [hh]
  refine ⟨by omega, by omega, fun z2 => ?_, fun z2 => k0 (fun w => z2 (zC_le.mpr w.2.1)) h sm.rf⟩
  have z3 := zC_le.mp z2
  have hm : 0 ≤ rmm L b ∧ rmm L b ≤ 48 := by
    unfold rmm
    refine ⟨Int.ediv_nonneg (by omega) (by omega), ?_⟩
    exact Int.le_trans (Int.ediv_le_self _ (by omega)) (by omega)
  have s6 : sm (fun j => j = 11) h (fx_uF h 11 6 (ov L b 6)) := sm.uF rfl
  refine e_FP_stripsOf (h := fx_uF h 11 6 (ov L b 6)) hS ⟨by omega, fun _ => ⟨by omega, by omega, by omega, ?_⟩, fun z => absurd z1 z⟩
  refine ⟨rmm L b, rfl, rfl, ?_⟩
  have s7 : sm (fun j => j = 11) h (fx_uF (fx_uF h 11 6 (ov L b 6)) 11 7 (rmm L b)) := s6.tr (sm.uF rfl)
  have c7 := c.sm s7 (by omega) (by omega)
  have t7 := ht.sm s7 (by omega)
  refine m_hasValues 5 (h := fx_uF (fx_uF h 11 6 (ov L b 6)) 11 7 (rmm L b)) (by omega) rfl hS c7 hst t7 hm.1 (by omega) (fun w5 => ⟨1, rfl, rfl, by omega, fun z => by omega, fun _ => ?_⟩) (fun w5 => ⟨0, rfl, rfl, by omega, fun _ => k0 (fun w => w5 w.2.2.1) _ s7, fun z => absurd rfl z⟩)
  have e7 : (fx_uF (fx_uF h 11 6 (ov L b 6)) 11 7 (rmm L b)).2.1 11 7 = rmm L b := uF_s _ _ _ _
  rw [e7]
  refine m_hasValues 7 (h := fx_uF (fx_uF h 11 6 (ov L b 6)) 11 7 (rmm L b)) (by omega) rfl hS c7 hst t7 hm.1 (by omega) (fun w7 => ⟨1, rfl, rfl, by omega, fun z => by omega, fun _ => k1 ⟨z1, z3, w5, w7⟩ _ s7 (fun k h1 h2 => by rw [uF_n _ _ (by omega), uF_n _ _ (by omega)]) (by rw [uF_n _ _ (by omega), uF_s]) e7⟩) (fun w7 => ⟨0, rfl, rfl, by omega, fun _ => k0 (fun w => w7 w.2.2.2) _ s7, fun z => absurd rfl z⟩)
/-- what the class has understood -/
def cU (h : fx_H) (L : List Int) (b : Int) : Prop := cT9 h L b ∧ h.2.1 11 2 = rg L b ∧ h.2.1 11 3 = ov L b 0 ∧ h.2.1 11 4 = ov L b 1 ∧ h.2.1 11 5 = ov L b 3 ∧ h.2.1 11 6 = ov L b 6 ∧ h.2.1 11 7 = rmm L b
theorem m_understand (hS : h.1 = fx_S0 a pp dd) (c : cL h L b) (h8 : 8 ≤ L.length) (k1 : tagOK L b → ∀ h2, sm (fun j => j = 11 ∨ j = 12) h h2 → cU h2 L b → Q (some (.int (zI 1))) h2) (k0 : ¬ tagOK L b → ∀ h2, sm (fun j => j = 11 ∨ j = 12) h h2 → Q (some (.int (zI 0))) h2) : fx_Mt l M_TG_understand (0, 0) [.ref 11] h Q := by
  have up : ∀ {h h2 : fx_H}, sm (fun j => j = 11) h h2 → sm (fun j => j = 11 ∨ j = 12) h h2 := fun s => s.mono fun q z => Or.inl z
  refine e_TG_understand hS (m_findTags hS c h8 (fun q h1 s1 f1 d1 => ⟨1, rfl, s1.1, by omega, fun z => by omega, fun _ => ?_⟩) (fun q h1 s1 f1 => ⟨0, rfl, s1.1, by omega, fun _ => k0 (fun w => q w.1) h1 (s1.mono fun q z => Or.inr z), fun z => absurd rfl z⟩))
  have s1' : sm (fun j => j = 11 ∨ j = 12) h h1 := s1.mono fun q z => Or.inr z
  have c1 := c.sm s1' (by omega) (by omega)
  refine m_understandPicture (s1.1.trans hS) c1 q.1 d1 (fun qp h2 s2 g2 g3 g4 => ⟨1, rfl, s2.1, by omega, fun z => by omega, fun _ => ?_⟩) (fun qp h2 s2 => ⟨0, rfl, s2.1, by omega, fun _ => k0 (fun w => qp w.2.1) h2 (s1'.tr (up s2)), fun z => absurd rfl z⟩)
  have s2' := s1'.tr (up s2)
  have c2 := c.sm s2' (by omega) (by omega)
  have d2 : cT9 h2 L b := cT9.sm d1 s2 (by omega)
  refine m_understandScheme (s2'.1.trans hS) c2 q.1 d2 g2 (fun qs h3 s3 keep3 g5 => ⟨1, rfl, s3.1, by omega, fun z => by omega, fun _ => ?_⟩) (fun qs h3 s3 => ⟨0, rfl, s3.1, by omega, fun _ => k0 (fun w => qs w.2.2.1) h3 (s2'.tr (up s3)), fun z => absurd rfl z⟩)
  have s3' := s2'.tr (up s3)
  have c3 := c.sm s3' (by omega) (by omega)
  have d3 : cT9 h3 L b := d2.sm s3 (by omega)
  have hsz := qp.2.2
  unfold szOK at hsz
  have ht24 : ov L b 1 ≤ 24 := by have := hsz.2.2.2; split at this <;> omega
  refine m_understandStrips (s3'.1.trans hS) c3 q.1 d3 ((keep3 4 (by omega)).trans g4) hsz.2.2.1 ht24 (fun qr h4 s4 keep4 g6 g7 => ⟨1, rfl, s4.1, by omega, fun z => by omega, fun _ => ?_⟩) (fun qr h4 s4 => ⟨0, rfl, s4.1, by omega, fun _ => k0 (fun w => qr w.2.2.2) h4 (s3'.tr (up s4)), fun z => absurd rfl z⟩)
  exact k1 ⟨q, qp, qs, qr⟩ h4 (s3'.tr (up s4)) ⟨d3.sm s4 (by omega), (keep4 2 (by omega) (by omega)).trans ((keep3 2 (by omega)).trans g2), (keep4 3 (by omega) (by omega)).trans ((keep3 3 (by omega)).trans g3), (keep4 4 (by omega) (by omega)).trans ((keep3 4 (by omega)).trans g4), (keep4 5 (by omega) (by omega)).trans g5, g6, g7⟩
theorem tagOK.m (t : tagOK L b) : 1 ≤ rmm L b ∧ rmm L b ≤ 24 ∧ rmm L b ≤ ov L b 1 ∧ ov L b 1 ≤ 24 := by
  have hsz := t.2.1.2.2
  unfold szOK at hsz
  have ht24 : ov L b 1 ≤ 24 := by have := hsz.2.2.2; split at this <;> omega
  have h1 := t.2.2.2.1
  have h2 := t.2.2.2.2.1
  have hp : 0 ≤ rmm L b := by unfold rmm; exact Int.ediv_nonneg (by omega) (by omega)
  have hr : rOK (ov L b 1) (ov L b 6) (rmm L b).toNat := ⟨h1, h2, by rw [Int.toNat_of_nonneg hp]; rfl⟩
  have := hr.le
  omega
theorem tagOK.rOK (t : tagOK L b) : rOK (ov L b 1) (ov L b 6) (rmm L b).toNat := ⟨t.2.2.2.1, t.2.2.2.2.1, by rw [Int.toNat_of_nonneg (by have := t.m.1; omega)]; rfl⟩
theorem m_stripsAreInFile (hS : h.1 = fx_S0 a pp dd) (c : cL h L b) (t : tagOK L b) (u : cU h L b) (k1 : inOK L b → Q (some (.int (zI 1))) h) (k0 : ¬ inOK L b → Q (some (.int (zI 0))) h) : fx_Mt l M_TG_stripsAreInFile (0, 0) [.ref 11] h Q := by
  have hB := c.2.2.2.2
  have hlen := c.2.2.2.1
  have l1 : h.2.1 1 1 = L.length := c.1.len
  have hm := t.m
  have e7 : h.2.1 11 7 = rmm L b := u.2.2.2.2.2.2
  refine e_TG_stripsAreInFile hS ?_
  have loop : ∀ (m i : Nat), (i : Int) + m = rmm L b → (∀ j : Nat, j < i → tval L b (tT L b 5) j + tval L b (tT L b 7) j ≤ L.length) → fx_V l M_TG_stripsAreInFile (0, 0) Q 0 0 2 [some (.ref 11), some (.int (zI (i : Nat)))] [] h := by
    intro m
    induction m with
    | zero =>
      intro i hi d
      exact w_TG_stripsAreInFile_2 hS ⟨by omega, by omega, fun _ => k1 (fun j hj => d j (by omega)), fun z => by omega⟩
    | succ m ih =>
      intro i hi d
      have v5 := tval_R (b := b) hB (tT L b 5) i
      have v7 := tval_R (b := b) hB (tT L b 7) i
      refine w_TG_stripsAreInFile_2 hS ⟨by omega, by omega, fun z => by omega, fun _ => ?_⟩
      refine m_valueOf 5 (by omega) rfl hS c t.1.1 u.1 (by omega) (by omega) (by omega) t.2.2.2.2.2.1 ⟨_, rfl, rfl, ?_⟩
      refine m_valueOf 7 (by omega) rfl hS c t.1.1 u.1 (by omega) (by omega) (by omega) t.2.2.2.2.2.2 ⟨_, rfl, rfl, ?_⟩
      rw [l1]
      refine ⟨by omega, by omega, by omega, fun z => ?_, fun z => k0 (fun w => z (zC_le.mpr (w i (by omega))))⟩
      have e : ((i : Nat) : Int) + 1 = ((i + 1 : Nat) : Int) := by omega
      rw [e]
      refine ih (i + 1) (by omega) fun j hj => ?_
      by_cases hji : j = i
      · subst hji; exact zC_le.mp z
      · exact d j (by omega)
  exact loop (rmm L b).toNat 0 (by omega) fun j hj => by omega
end TH
