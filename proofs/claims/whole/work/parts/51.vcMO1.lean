/-! what is owed of the numbers, by program (wip/printvc.py) -/
set_option maxRecDepth 100000 in
set_option maxHeartbeats 4000000 in
theorem e_MO_outTable {l : Launch} {Q : Option Value → fx_H → Prop} {h : fx_H}    {a : Nat → Nat} {pp dd : Nat} (hS : h.1 = fx_S0 a pp dd) 
    (H : fx_Mt l M_MO_outBits (0, 0) [.ref 31, .int (zI 256), .int (zI 9)] (fx_uF h 31 28 258) (fun v h1 => v = none ∧ h1.1 = (fx_uF h 31 28 258).1 ∧ (fx_V l M_MO_outTable (0, 0) Q 0 0 20 [some (.ref 31), some (.int (zI 0)), some (.int (zI 0)), none] [] h1))) :
    fx_Mt l M_MO_outTable (0, 0) [.ref 31] h Q := by
  refine fx_entry (ls := [some (.ref 31), none, none, none]) (by decide) (Nat.le_of_ble_eq_true rfl) rfl ?_
  refine fx_aload_n (i := 0) d_MO_outTable_0 rfl rfl ?_
  refine fx_sipush (v := 258) d_MO_outTable_1 rfl ?_
  refine fx_putI d_MO_outTable_4 lk_MO_141 (at_31 (h := _) hS) rfl rfl rfl ?_
  refine fx_aload_n (i := 0) d_MO_outTable_7 rfl rfl ?_
  refine fx_sipush (v := 256) d_MO_outTable_8 rfl ?_
  refine fx_bipush (v := 9) d_MO_outTable_11 rfl ?_
  refine fx_callV (M' := M_MO_outBits) (B' := (0, 0)) (vs := [.int (zI 256), .int (zI 9)]) (rest := []) (c1 := 0) (s1 := 0) (n := 16) d_MO_outTable_13 ca_MO_outTable_124 (at_31 (h := _) hS) rfl rfl rfl ⟨by decide, by decide⟩ (Nat.le_of_ble_eq_true rfl) (Or.inl rfl) (fx_Mt.mono H fun v h1 hv => ?_)
  obtain ⟨rfl, e2, H⟩ := hv
  have hS1 := e2.trans hS
  show fx_V l M_MO_outTable (0, 0) Q 0 0 16 [some (.ref 31), none, none, none] [] h1
  refine fx_iconst d_MO_outTable_16 ?_
  refine fx_istore_n (i := 1) (ls2 := [some (.ref 31), some (.int (zI 0)), none, none]) d_MO_outTable_17 rfl (by decide) rfl ?_
  refine fx_iconst d_MO_outTable_18 ?_
  refine fx_istore_n (i := 2) (ls2 := [some (.ref 31), some (.int (zI 0)), some (.int (zI 0)), none]) d_MO_outTable_19 rfl (by decide) rfl ?_
  exact H

set_option maxRecDepth 100000 in
set_option maxHeartbeats 4000000 in
theorem w_MO_outTable_20 {l : Launch} {Q : Option Value → fx_H → Prop} {h : fx_H}  {x1 : Int} {x2 : Int}  {a : Nat → Nat} {pp dd : Nat} (hS : h.1 = fx_S0 a pp dd) 
    (H : zR x2 ∧ zR (h.2.1 31 27) ∧ (((h.2.1 31 27) ≤ x2 → fx_Mt l M_MO_digitsOf (0, 0) [.int (zI (x1 + 1))] h (fun v h4 => ∃ r6 : Int, v = some (.int (zI r6)) ∧ h4.1 = h.1 ∧ fx_Mt l M_MO_outBits (0, 0) [.ref 31, .int (zI 257), .int (zI r6)] h4 (fun v h7 => v = none ∧ h7.1 = h4.1 ∧ fx_Mt l M_MO_outRest (0, 0) [.ref 31] h7 (fun v h9 => v = none ∧ h9.1 = h7.1 ∧ Q none h9)))) ∧ (¬ ((h.2.1 31 27) ≤ x2) → 0 ≤ x2 ∧ x2 < 400 ∧ (fx_V l M_MO_outTable (0, 0) Q 0 0 38 [some (.ref 31), some (.int (zI x1)), some (.int (zI (x2 + 1))), some (.int (zI (h.2.2.1 38 (x2.toNat))))] [] h)))) :
    fx_V l M_MO_outTable (0, 0) Q 0 0 20 [some (.ref 31), some (.int (zI x1)), some (.int (zI x2)), none] [] h := by
  refine fx_iload_n (i := 2) d_MO_outTable_20 rfl rfl ?_
  refine fx_aload_n (i := 0) d_MO_outTable_21 rfl rfl ?_
  refine fx_getI d_MO_outTable_22 lk_MO_134 (at_31 (h := _) hS) rfl ?_
  obtain ⟨hz1, H⟩ := H
  obtain ⟨hz2, H⟩ := H
  refine fx_icmp_ge (t := 112) (n := 28) d_MO_outTable_25 hz1 hz2 (fun z3 => ?_) (fun z3 => ?_)
  · replace H := H.1 z3
    refine fx_aload_n (i := 0) d_MO_outTable_112 rfl rfl ?_
    refine fx_sipush (v := 257) d_MO_outTable_113 rfl ?_
    refine fx_iload_n (i := 1) d_MO_outTable_116 rfl rfl ?_
    refine fx_iconst d_MO_outTable_117 ?_
    refine fx_iadd d_MO_outTable_118 ?_
    refine fx_callS (M' := M_MO_digitsOf) (B' := (0, 0)) (vs := [.int (zI (x1 + 1))]) (rest := [.int (zI 257), .ref 31]) (c1 := 0) (s1 := 0) (n := 122) d_MO_outTable_119 ca_MO_outTable_148 rfl rfl ⟨by decide, by decide⟩ (Nat.le_of_ble_eq_true rfl) (Or.inl rfl) (fx_Mt.mono H fun v h4 hv => ?_)
    obtain ⟨r6, rfl, e5, H⟩ := hv
    have hS4 := e5.trans hS
    show fx_V l M_MO_outTable (0, 0) Q 0 0 122 [some (.ref 31), some (.int (zI x1)), some (.int (zI x2)), none] [.int (zI r6), .int (zI 257), .ref 31] h4
    refine fx_callV (M' := M_MO_outBits) (B' := (0, 0)) (vs := [.int (zI 257), .int (zI r6)]) (rest := []) (c1 := 0) (s1 := 0) (n := 125) d_MO_outTable_122 ca_MO_outTable_124 (at_31 (h := _) hS4) rfl rfl rfl ⟨by decide, by decide⟩ (Nat.le_of_ble_eq_true rfl) (Or.inl rfl) (fx_Mt.mono H fun v h7 hv => ?_)
    obtain ⟨rfl, e8, H⟩ := hv
    have hS7 := e8.trans hS4
    show fx_V l M_MO_outTable (0, 0) Q 0 0 125 [some (.ref 31), some (.int (zI x1)), some (.int (zI x2)), none] [] h7
    refine fx_aload_n (i := 0) d_MO_outTable_125 rfl rfl ?_
    refine fx_callV (M' := M_MO_outRest) (B' := (0, 0)) (vs := []) (rest := []) (c1 := 0) (s1 := 0) (n := 129) d_MO_outTable_126 ca_MO_outTable_155 (at_31 (h := _) hS7) rfl rfl rfl ⟨by decide, by decide⟩ (Nat.le_of_ble_eq_true rfl) (Or.inl rfl) (fx_Mt.mono H fun v h9 hv => ?_)
    obtain ⟨rfl, e10, H⟩ := hv
    have hS9 := e10.trans hS7
    show fx_V l M_MO_outTable (0, 0) Q 0 0 129 [some (.ref 31), some (.int (zI x1)), some (.int (zI x2)), none] [] h9
    exact fx_end none ⟨rfl, d_MO_outTable_129⟩ (Nat.le_refl _) (Nat.le_refl _) rfl H
  · replace H := H.2 z3
    refine fx_aload_n (i := 0) d_MO_outTable_28 rfl rfl ?_
    refine fx_getR (q := 38) d_MO_outTable_29 lk_MO_47 (at_31 (h := _) hS) rfl rfl ?_
    refine fx_iload_n (i := 2) d_MO_outTable_32 rfl rfl ?_
    obtain ⟨hn11, H⟩ := H
    obtain ⟨hn12, H⟩ := H
    refine fx_iald d_MO_outTable_33 (at_38 (h := _) hS) hn11 hn12 (by decide) ?_
    refine fx_istore_n (i := 3) (ls2 := [some (.ref 31), some (.int (zI x1)), some (.int (zI x2)), some (.int (zI (h.2.2.1 38 (x2.toNat))))]) d_MO_outTable_34 rfl (by decide) rfl ?_
    refine fx_iinc (v := x2 + 1) (ls2 := [some (.ref 31), some (.int (zI x1)), some (.int (zI (x2 + 1))), some (.int (zI (h.2.2.1 38 (x2.toNat))))]) d_MO_outTable_35 rfl rfl (by decide) rfl ?_
    exact H

set_option maxRecDepth 100000 in
set_option maxHeartbeats 4000000 in
theorem w_MO_outTable_38 {l : Launch} {Q : Option Value → fx_H → Prop} {h : fx_H}  {x1 : Int} {x2 : Int} {x3 : Int}  {a : Nat → Nat} {pp dd : Nat} (hS : h.1 = fx_S0 a pp dd) 
    (H : zR x2 ∧ zR (h.2.1 31 27) ∧ (((h.2.1 31 27) ≤ x2 → fx_Mt l M_MO_digitsOf (0, 0) [.int (zI (x1 + 1))] h (fun v h4 => ∃ r6 : Int, v = some (.int (zI r6)) ∧ h4.1 = h.1 ∧ fx_Mt l M_MO_outBits (0, 0) [.ref 31, .int (zI x3), .int (zI r6)] h4 (fun v h7 => v = none ∧ h7.1 = h4.1 ∧ zR (h7.2.1 31 27) ∧ (((h7.2.1 31 27) ≤ x2 → (fx_V l M_MO_outTable (0, 0) Q 0 0 20 [some (.ref 31), some (.int (zI (x1 + 1))), some (.int (zI x2)), none] [] h7)) ∧ (¬ ((h7.2.1 31 27) ≤ x2) → 0 ≤ x2 ∧ x2 < 400 ∧ fx_Mt l M_MO_make (0, 0) [.ref 31, .int (zI x3), .int (zI (h7.2.2.1 38 (x2.toNat)))] h7 (fun v h13 => v = none ∧ h13.1 = h7.1 ∧ (fx_V l M_MO_outTable (0, 0) Q 0 0 20 [some (.ref 31), some (.int (zI (x1 + 1))), some (.int (zI x2)), none] [] h13))))))) ∧ (¬ ((h.2.1 31 27) ≤ x2) → 0 ≤ x2 ∧ x2 < 400 ∧ fx_Mt l M_MO_longer (0, 0) [.ref 31, .int (zI x3), .int (zI (h.2.2.1 38 (x2.toNat)))] h (fun v h17 => ∃ r19 : Int, v = some (.int (zI r19)) ∧ h17.1 = h.1 ∧ zR r19 ∧ ((r19 < 0 → fx_Mt l M_MO_digitsOf (0, 0) [.int (zI (x1 + 1))] h17 (fun v h22 => ∃ r24 : Int, v = some (.int (zI r24)) ∧ h22.1 = h17.1 ∧ fx_Mt l M_MO_outBits (0, 0) [.ref 31, .int (zI x3), .int (zI r24)] h22 (fun v h25 => v = none ∧ h25.1 = h22.1 ∧ zR (h25.2.1 31 27) ∧ (((h25.2.1 31 27) ≤ x2 → (fx_V l M_MO_outTable (0, 0) Q 0 0 20 [some (.ref 31), some (.int (zI (x1 + 1))), some (.int (zI x2)), none] [] h25)) ∧ (¬ ((h25.2.1 31 27) ≤ x2) → 0 ≤ x2 ∧ x2 < 400 ∧ fx_Mt l M_MO_make (0, 0) [.ref 31, .int (zI x3), .int (zI (h25.2.2.1 38 (x2.toNat)))] h25 (fun v h31 => v = none ∧ h31.1 = h25.1 ∧ (fx_V l M_MO_outTable (0, 0) Q 0 0 20 [some (.ref 31), some (.int (zI (x1 + 1))), some (.int (zI x2)), none] [] h31))))))) ∧ (¬ (r19 < 0) → 0 ≤ x2 ∧ x2 < 400 ∧ fx_Mt l M_MO_longer (0, 0) [.ref 31, .int (zI x3), .int (zI (h17.2.2.1 38 (x2.toNat)))] h17 (fun v h35 => ∃ r37 : Int, v = some (.int (zI r37)) ∧ h35.1 = h17.1 ∧ (fx_V l M_MO_outTable (0, 0) Q 0 0 38 [some (.ref 31), some (.int (zI x1)), some (.int (zI (x2 + 1))), some (.int (zI r37))] [] h35)))))))) :
    fx_V l M_MO_outTable (0, 0) Q 0 0 38 [some (.ref 31), some (.int (zI x1)), some (.int (zI x2)), some (.int (zI x3))] [] h := by
  refine fx_iload_n (i := 2) d_MO_outTable_38 rfl rfl ?_
  refine fx_aload_n (i := 0) d_MO_outTable_39 rfl rfl ?_
  refine fx_getI d_MO_outTable_40 lk_MO_134 (at_31 (h := _) hS) rfl ?_
  obtain ⟨hz1, H⟩ := H
  obtain ⟨hz2, H⟩ := H
  refine fx_icmp_ge (t := 78) (n := 46) d_MO_outTable_43 hz1 hz2 (fun z3 => ?_) (fun z3 => ?_)
  · replace H := H.1 z3
    refine fx_iinc (v := x1 + 1) (ls2 := [some (.ref 31), some (.int (zI (x1 + 1))), some (.int (zI x2)), some (.int (zI x3))]) d_MO_outTable_78 rfl rfl (by decide) rfl ?_
    refine fx_aload_n (i := 0) d_MO_outTable_81 rfl rfl ?_
    refine fx_iload_n (i := 3) d_MO_outTable_82 rfl rfl ?_
    refine fx_iload_n (i := 1) d_MO_outTable_83 rfl rfl ?_
    refine fx_callS (M' := M_MO_digitsOf) (B' := (0, 0)) (vs := [.int (zI (x1 + 1))]) (rest := [.int (zI x3), .ref 31]) (c1 := 0) (s1 := 0) (n := 87) d_MO_outTable_84 ca_MO_outTable_148 rfl rfl ⟨by decide, by decide⟩ (Nat.le_of_ble_eq_true rfl) (Or.inl rfl) (fx_Mt.mono H fun v h4 hv => ?_)
    obtain ⟨r6, rfl, e5, H⟩ := hv
    have hS4 := e5.trans hS
    show fx_V l M_MO_outTable (0, 0) Q 0 0 87 [some (.ref 31), some (.int (zI (x1 + 1))), some (.int (zI x2)), some (.int (zI x3))] [.int (zI r6), .int (zI x3), .ref 31] h4
    refine fx_callV (M' := M_MO_outBits) (B' := (0, 0)) (vs := [.int (zI x3), .int (zI r6)]) (rest := []) (c1 := 0) (s1 := 0) (n := 90) d_MO_outTable_87 ca_MO_outTable_124 (at_31 (h := _) hS4) rfl rfl rfl ⟨by decide, by decide⟩ (Nat.le_of_ble_eq_true rfl) (Or.inl rfl) (fx_Mt.mono H fun v h7 hv => ?_)
    obtain ⟨rfl, e8, H⟩ := hv
    have hS7 := e8.trans hS4
    show fx_V l M_MO_outTable (0, 0) Q 0 0 90 [some (.ref 31), some (.int (zI (x1 + 1))), some (.int (zI x2)), some (.int (zI x3))] [] h7
    refine fx_iload_n (i := 2) d_MO_outTable_90 rfl rfl ?_
    refine fx_aload_n (i := 0) d_MO_outTable_91 rfl rfl ?_
    refine fx_getI d_MO_outTable_92 lk_MO_134 (at_31 (h := _) hS7) rfl ?_
    obtain ⟨hz9, H⟩ := H
    refine fx_icmp_ge (t := 109) (n := 98) d_MO_outTable_95 hz1 hz9 (fun z10 => ?_) (fun z10 => ?_)
    · replace H := H.1 z10
      refine fx_goto (n := 20) d_MO_outTable_109 ?_
      exact fx_fewer [some (.ref 31), some (.int (zI (x1 + 1))), some (.int (zI x2)), none] ⟨rfl, rfl, rfl, trivial⟩ H
    · replace H := H.2 z10
      refine fx_aload_n (i := 0) d_MO_outTable_98 rfl rfl ?_
      refine fx_iload_n (i := 3) d_MO_outTable_99 rfl rfl ?_
      refine fx_aload_n (i := 0) d_MO_outTable_100 rfl rfl ?_
      refine fx_getR (q := 38) d_MO_outTable_101 lk_MO_47 (at_31 (h := _) hS7) rfl rfl ?_
      refine fx_iload_n (i := 2) d_MO_outTable_104 rfl rfl ?_
      obtain ⟨hn11, H⟩ := H
      obtain ⟨hn12, H⟩ := H
      refine fx_iald d_MO_outTable_105 (at_38 (h := _) hS7) hn11 hn12 (by decide) ?_
      refine fx_callV (M' := M_MO_make) (B' := (0, 0)) (vs := [.int (zI x3), .int (zI (h7.2.2.1 38 (x2.toNat)))]) (rest := []) (c1 := 0) (s1 := 0) (n := 109) d_MO_outTable_106 ca_MO_outTable_152 (at_31 (h := _) hS7) rfl rfl rfl ⟨by decide, by decide⟩ (Nat.le_of_ble_eq_true rfl) (Or.inl rfl) (fx_Mt.mono H fun v h13 hv => ?_)
      obtain ⟨rfl, e14, H⟩ := hv
      have hS13 := e14.trans hS7
      show fx_V l M_MO_outTable (0, 0) Q 0 0 109 [some (.ref 31), some (.int (zI (x1 + 1))), some (.int (zI x2)), some (.int (zI x3))] [] h13
      refine fx_goto (n := 20) d_MO_outTable_109 ?_
      exact fx_fewer [some (.ref 31), some (.int (zI (x1 + 1))), some (.int (zI x2)), none] ⟨rfl, rfl, rfl, trivial⟩ H
  · replace H := H.2 z3
    refine fx_aload_n (i := 0) d_MO_outTable_46 rfl rfl ?_
    refine fx_iload_n (i := 3) d_MO_outTable_47 rfl rfl ?_
    refine fx_aload_n (i := 0) d_MO_outTable_48 rfl rfl ?_
    refine fx_getR (q := 38) d_MO_outTable_49 lk_MO_47 (at_31 (h := _) hS) rfl rfl ?_
    refine fx_iload_n (i := 2) d_MO_outTable_52 rfl rfl ?_
    obtain ⟨hn15, H⟩ := H
    obtain ⟨hn16, H⟩ := H
    refine fx_iald d_MO_outTable_53 (at_38 (h := _) hS) hn15 hn16 (by decide) ?_
    refine fx_callV (M' := M_MO_longer) (B' := (0, 0)) (vs := [.int (zI x3), .int (zI (h.2.2.1 38 (x2.toNat)))]) (rest := []) (c1 := 0) (s1 := 0) (n := 57) d_MO_outTable_54 ca_MO_outTable_144 (at_31 (h := _) hS) rfl rfl rfl ⟨by decide, by decide⟩ (Nat.le_of_ble_eq_true rfl) (Or.inl rfl) (fx_Mt.mono H fun v h17 hv => ?_)
    obtain ⟨r19, rfl, e18, H⟩ := hv
    have hS17 := e18.trans hS
    show fx_V l M_MO_outTable (0, 0) Q 0 0 57 [some (.ref 31), some (.int (zI x1)), some (.int (zI x2)), some (.int (zI x3))] [.int (zI r19)] h17
    obtain ⟨hz20, H⟩ := H
    refine fx_if_lt (t := 78) (n := 60) d_MO_outTable_57 hz20 (fun z21 => ?_) (fun z21 => ?_)
    · replace H := H.1 z21
      refine fx_iinc (v := x1 + 1) (ls2 := [some (.ref 31), some (.int (zI (x1 + 1))), some (.int (zI x2)), some (.int (zI x3))]) d_MO_outTable_78 rfl rfl (by decide) rfl ?_
      refine fx_aload_n (i := 0) d_MO_outTable_81 rfl rfl ?_
      refine fx_iload_n (i := 3) d_MO_outTable_82 rfl rfl ?_
      refine fx_iload_n (i := 1) d_MO_outTable_83 rfl rfl ?_
      refine fx_callS (M' := M_MO_digitsOf) (B' := (0, 0)) (vs := [.int (zI (x1 + 1))]) (rest := [.int (zI x3), .ref 31]) (c1 := 0) (s1 := 0) (n := 87) d_MO_outTable_84 ca_MO_outTable_148 rfl rfl ⟨by decide, by decide⟩ (Nat.le_of_ble_eq_true rfl) (Or.inl rfl) (fx_Mt.mono H fun v h22 hv => ?_)
      obtain ⟨r24, rfl, e23, H⟩ := hv
      have hS22 := e23.trans hS17
      show fx_V l M_MO_outTable (0, 0) Q 0 0 87 [some (.ref 31), some (.int (zI (x1 + 1))), some (.int (zI x2)), some (.int (zI x3))] [.int (zI r24), .int (zI x3), .ref 31] h22
      refine fx_callV (M' := M_MO_outBits) (B' := (0, 0)) (vs := [.int (zI x3), .int (zI r24)]) (rest := []) (c1 := 0) (s1 := 0) (n := 90) d_MO_outTable_87 ca_MO_outTable_124 (at_31 (h := _) hS22) rfl rfl rfl ⟨by decide, by decide⟩ (Nat.le_of_ble_eq_true rfl) (Or.inl rfl) (fx_Mt.mono H fun v h25 hv => ?_)
      obtain ⟨rfl, e26, H⟩ := hv
      have hS25 := e26.trans hS22
      show fx_V l M_MO_outTable (0, 0) Q 0 0 90 [some (.ref 31), some (.int (zI (x1 + 1))), some (.int (zI x2)), some (.int (zI x3))] [] h25
      refine fx_iload_n (i := 2) d_MO_outTable_90 rfl rfl ?_
      refine fx_aload_n (i := 0) d_MO_outTable_91 rfl rfl ?_
      refine fx_getI d_MO_outTable_92 lk_MO_134 (at_31 (h := _) hS25) rfl ?_
      obtain ⟨hz27, H⟩ := H
      refine fx_icmp_ge (t := 109) (n := 98) d_MO_outTable_95 hz1 hz27 (fun z28 => ?_) (fun z28 => ?_)
      · replace H := H.1 z28
        refine fx_goto (n := 20) d_MO_outTable_109 ?_
        exact fx_fewer [some (.ref 31), some (.int (zI (x1 + 1))), some (.int (zI x2)), none] ⟨rfl, rfl, rfl, trivial⟩ H
      · replace H := H.2 z28
        refine fx_aload_n (i := 0) d_MO_outTable_98 rfl rfl ?_
        refine fx_iload_n (i := 3) d_MO_outTable_99 rfl rfl ?_
        refine fx_aload_n (i := 0) d_MO_outTable_100 rfl rfl ?_
        refine fx_getR (q := 38) d_MO_outTable_101 lk_MO_47 (at_31 (h := _) hS25) rfl rfl ?_
        refine fx_iload_n (i := 2) d_MO_outTable_104 rfl rfl ?_
        obtain ⟨hn29, H⟩ := H
        obtain ⟨hn30, H⟩ := H
        refine fx_iald d_MO_outTable_105 (at_38 (h := _) hS25) hn29 hn30 (by decide) ?_
        refine fx_callV (M' := M_MO_make) (B' := (0, 0)) (vs := [.int (zI x3), .int (zI (h25.2.2.1 38 (x2.toNat)))]) (rest := []) (c1 := 0) (s1 := 0) (n := 109) d_MO_outTable_106 ca_MO_outTable_152 (at_31 (h := _) hS25) rfl rfl rfl ⟨by decide, by decide⟩ (Nat.le_of_ble_eq_true rfl) (Or.inl rfl) (fx_Mt.mono H fun v h31 hv => ?_)
        obtain ⟨rfl, e32, H⟩ := hv
        have hS31 := e32.trans hS25
        show fx_V l M_MO_outTable (0, 0) Q 0 0 109 [some (.ref 31), some (.int (zI (x1 + 1))), some (.int (zI x2)), some (.int (zI x3))] [] h31
        refine fx_goto (n := 20) d_MO_outTable_109 ?_
        exact fx_fewer [some (.ref 31), some (.int (zI (x1 + 1))), some (.int (zI x2)), none] ⟨rfl, rfl, rfl, trivial⟩ H
    · replace H := H.2 z21
      refine fx_aload_n (i := 0) d_MO_outTable_60 rfl rfl ?_
      refine fx_iload_n (i := 3) d_MO_outTable_61 rfl rfl ?_
      refine fx_aload_n (i := 0) d_MO_outTable_62 rfl rfl ?_
      refine fx_getR (q := 38) d_MO_outTable_63 lk_MO_47 (at_31 (h := _) hS17) rfl rfl ?_
      refine fx_iload_n (i := 2) d_MO_outTable_66 rfl rfl ?_
      obtain ⟨hn33, H⟩ := H
      obtain ⟨hn34, H⟩ := H
      refine fx_iald d_MO_outTable_67 (at_38 (h := _) hS17) hn33 hn34 (by decide) ?_
      refine fx_callV (M' := M_MO_longer) (B' := (0, 0)) (vs := [.int (zI x3), .int (zI (h17.2.2.1 38 (x2.toNat)))]) (rest := []) (c1 := 0) (s1 := 0) (n := 71) d_MO_outTable_68 ca_MO_outTable_144 (at_31 (h := _) hS17) rfl rfl rfl ⟨by decide, by decide⟩ (Nat.le_of_ble_eq_true rfl) (Or.inl rfl) (fx_Mt.mono H fun v h35 hv => ?_)
      obtain ⟨r37, rfl, e36, H⟩ := hv
      have hS35 := e36.trans hS17
      show fx_V l M_MO_outTable (0, 0) Q 0 0 71 [some (.ref 31), some (.int (zI x1)), some (.int (zI x2)), some (.int (zI x3))] [.int (zI r37)] h35
      refine fx_istore_n (i := 3) (ls2 := [some (.ref 31), some (.int (zI x1)), some (.int (zI x2)), some (.int (zI r37))]) d_MO_outTable_71 rfl (by decide) rfl ?_
      refine fx_iinc (v := x2 + 1) (ls2 := [some (.ref 31), some (.int (zI x1)), some (.int (zI (x2 + 1))), some (.int (zI r37))]) d_MO_outTable_72 rfl rfl (by decide) rfl ?_
      refine fx_goto (n := 38) d_MO_outTable_75 ?_
      exact H

set_option maxRecDepth 100000 in
set_option maxHeartbeats 4000000 in
theorem e_MO_outBits {l : Launch} {Q : Option Value → fx_H → Prop} {h : fx_H}  {x : Int} {y : Int}  {a : Nat → Nat} {pp dd : Nat} (hS : h.1 = fx_S0 a pp dd) 
    (H : (fx_V l M_MO_outBits (0, 0) Q 0 0 4 [some (.ref 31), some (.int (zI x)), none, some (.int (zI (y - 1)))] [] h)) :
    fx_Mt l M_MO_outBits (0, 0) [.ref 31, .int (zI x), .int (zI y)] h Q := by
  refine fx_entry (ls := [some (.ref 31), some (.int (zI x)), some (.int (zI y)), none]) (by decide) (Nat.le_of_ble_eq_true rfl) rfl ?_
  refine fx_iload_n (i := 2) d_MO_outBits_0 rfl rfl ?_
  refine fx_iconst d_MO_outBits_1 ?_
  refine fx_isub d_MO_outBits_2 ?_
  refine fx_istore_n (i := 3) (ls2 := [some (.ref 31), some (.int (zI x)), some (.int (zI y)), some (.int (zI (y - 1)))]) d_MO_outBits_3 rfl (by decide) rfl ?_
  exact fx_fewer [some (.ref 31), some (.int (zI x)), none, some (.int (zI (y - 1)))] ⟨rfl, rfl, rfl, trivial⟩ H

set_option maxRecDepth 100000 in
set_option maxHeartbeats 4000000 in
theorem w_MO_outBits_4 {l : Launch} {Q : Option Value → fx_H → Prop} {h : fx_H}  {x1 : Int} {x3 : Int}  {a : Nat → Nat} {pp dd : Nat} (hS : h.1 = fx_S0 a pp dd) 
    (H : zR x3 ∧ ((x3 < 0 → Q none h) ∧ (¬ (x3 < 0) → (0 ≤ x3 ∧ x3 < 32) ∧ zR x1 ∧ fx_Mt l M_MO_outBit (0, 0) [.ref 31, .int (zI ((x1 / 2 ^ x3.toNat) % 2))] h (fun v h6 => v = none ∧ h6.1 = h.1 ∧ (fx_V l M_MO_outBits (0, 0) Q 0 0 4 [some (.ref 31), some (.int (zI x1)), none, some (.int (zI (x3 + (-1))))] [] h6))))) :
    fx_V l M_MO_outBits (0, 0) Q 0 0 4 [some (.ref 31), some (.int (zI x1)), none, some (.int (zI x3))] [] h := by
  refine fx_iload_n (i := 3) d_MO_outBits_4 rfl rfl ?_
  obtain ⟨hz1, H⟩ := H
  refine fx_if_lt (t := 23) (n := 8) d_MO_outBits_5 hz1 (fun z2 => ?_) (fun z2 => ?_)
  · replace H := H.1 z2
    exact fx_end none ⟨rfl, d_MO_outBits_23⟩ (Nat.le_refl _) (Nat.le_refl _) rfl H
  · replace H := H.2 z2
    refine fx_aload_n (i := 0) d_MO_outBits_8 rfl rfl ?_
    refine fx_iload_n (i := 1) d_MO_outBits_9 rfl rfl ?_
    refine fx_iload_n (i := 3) d_MO_outBits_10 rfl rfl ?_
    obtain ⟨hn3, H⟩ := H
    have ez4 : ((x3.toNat : Nat) : Int) = x3 := Int.toNat_of_nonneg hn3.1
    refine fx_eqv (st2 := [(.int (zI ((x3.toNat : Nat) : Int))), .int (zI x1), .ref 31]) (by rw [ez4]) ?_
    obtain ⟨hz5, H⟩ := H
    refine fx_ishr (j := x3.toNat) d_MO_outBits_11 hz5 (by omega) ?_
    refine fx_iconst d_MO_outBits_12 ?_
    refine fx_and1 d_MO_outBits_13 ?_
    refine fx_callV (M' := M_MO_outBit) (B' := (0, 0)) (vs := [.int (zI ((x1 / 2 ^ x3.toNat) % 2))]) (rest := []) (c1 := 0) (s1 := 0) (n := 17) d_MO_outBits_14 ca_MO_outBits_121 (at_31 (h := _) hS) rfl rfl rfl ⟨by decide, by decide⟩ (Nat.le_of_ble_eq_true rfl) (Or.inl rfl) (fx_Mt.mono H fun v h6 hv => ?_)
    obtain ⟨rfl, e7, H⟩ := hv
    have hS6 := e7.trans hS
    show fx_V l M_MO_outBits (0, 0) Q 0 0 17 [some (.ref 31), some (.int (zI x1)), none, some (.int (zI x3))] [] h6
    refine fx_iinc (v := x3 + (-1)) (ls2 := [some (.ref 31), some (.int (zI x1)), none, some (.int (zI (x3 + (-1))))]) d_MO_outBits_17 rfl rfl (by decide) rfl ?_
    refine fx_goto (n := 4) d_MO_outBits_20 ?_
    exact H

set_option maxRecDepth 100000 in
set_option maxHeartbeats 4000000 in
theorem e_MO_outBit {l : Launch} {Q : Option Value → fx_H → Prop} {h : fx_H}  {x : Int}  {a : Nat → Nat} {pp dd : Nat} (hS : h.1 = fx_S0 a pp dd) 
    (H : zR ((h.2.1 31 19) + 1) ∧ ((¬ ((h.2.1 31 19) + 1) = 8 → Q none (fx_uF (fx_uF h 31 18 ((2 * (h.2.1 31 18)) + x)) 31 19 ((h.2.1 31 19) + 1))) ∧ (((h.2.1 31 19) + 1) = 8 → fx_Mt l M_MO_out (0, 0) [.ref 31, .int (zI ((2 * (h.2.1 31 18)) + x))] (fx_uF (fx_uF h 31 18 ((2 * (h.2.1 31 18)) + x)) 31 19 ((h.2.1 31 19) + 1)) (fun v h3 => v = none ∧ h3.1 = (fx_uF (fx_uF h 31 18 ((2 * (h.2.1 31 18)) + x)) 31 19 ((h.2.1 31 19) + 1)).1 ∧ Q none (fx_uF (fx_uF h3 31 18 0) 31 19 0))))) :
    fx_Mt l M_MO_outBit (0, 0) [.ref 31, .int (zI x)] h Q := by
  refine fx_entry (ls := [some (.ref 31), some (.int (zI x))]) (by decide) (Nat.le_of_ble_eq_true rfl) rfl ?_
  refine fx_aload_n (i := 0) d_MO_outBit_0 rfl rfl ?_
  refine fx_iconst d_MO_outBit_1 ?_
  refine fx_aload_n (i := 0) d_MO_outBit_2 rfl rfl ?_
  refine fx_getI d_MO_outBit_3 lk_MO_115 (at_31 (h := _) hS) rfl ?_
  refine fx_imul d_MO_outBit_6 ?_
  refine fx_iload_n (i := 1) d_MO_outBit_7 rfl rfl ?_
  refine fx_iadd d_MO_outBit_8 ?_
  refine fx_putI d_MO_outBit_9 lk_MO_115 (at_31 (h := _) hS) rfl rfl rfl ?_
  refine fx_aload_n (i := 0) d_MO_outBit_12 rfl rfl ?_
  refine fx_dup d_MO_outBit_13 rfl ?_
  refine fx_getI d_MO_outBit_14 lk_MO_118 (at_31 (h := _) hS) rfl ?_
  refine fx_iconst d_MO_outBit_17 ?_
  refine fx_iadd d_MO_outBit_18 ?_
  refine fx_putI d_MO_outBit_19 lk_MO_118 (at_31 (h := _) hS) rfl rfl rfl ?_
  refine fx_aload_n (i := 0) d_MO_outBit_22 rfl rfl ?_
  refine fx_getI d_MO_outBit_23 lk_MO_118 (at_31 (h := _) hS) rfl ?_
  refine fx_bipush (v := 8) d_MO_outBit_26 rfl ?_
  obtain ⟨hz1, H⟩ := H
  refine fx_icmp_ne (t := 49) (n := 31) d_MO_outBit_28 hz1 (show zR 8 by decide) (fun z2 => ?_) (fun z2 => ?_)
  · replace H := H.1 z2
    exact fx_end none ⟨rfl, d_MO_outBit_49⟩ (Nat.le_refl _) (Nat.le_refl _) rfl H
  · replace H := H.2 z2
    refine fx_aload_n (i := 0) d_MO_outBit_31 rfl rfl ?_
    refine fx_aload_n (i := 0) d_MO_outBit_32 rfl rfl ?_
    refine fx_getI d_MO_outBit_33 lk_MO_115 (at_31 (h := _) hS) rfl ?_
    refine fx_callV (M' := M_MO_out) (B' := (0, 0)) (vs := [.int (zI ((2 * (h.2.1 31 18)) + x))]) (rest := []) (c1 := 0) (s1 := 0) (n := 39) d_MO_outBit_36 ca_MO_outBit_111 (at_31 (h := _) hS) rfl rfl rfl ⟨by decide, by decide⟩ (Nat.le_of_ble_eq_true rfl) (Or.inl rfl) (fx_Mt.mono H fun v h3 hv => ?_)
    obtain ⟨rfl, e4, H⟩ := hv
    have hS3 := e4.trans hS
    show fx_V l M_MO_outBit (0, 0) Q 0 0 39 [some (.ref 31), some (.int (zI x))] [] h3
    refine fx_aload_n (i := 0) d_MO_outBit_39 rfl rfl ?_
    refine fx_iconst d_MO_outBit_40 ?_
    refine fx_putI d_MO_outBit_41 lk_MO_115 (at_31 (h := _) hS3) rfl rfl rfl ?_
    refine fx_aload_n (i := 0) d_MO_outBit_44 rfl rfl ?_
    refine fx_iconst d_MO_outBit_45 ?_
    refine fx_putI d_MO_outBit_46 lk_MO_118 (at_31 (h := _) hS3) rfl rfl rfl ?_
    exact fx_end none ⟨rfl, d_MO_outBit_49⟩ (Nat.le_refl _) (Nat.le_refl _) rfl H

set_option maxRecDepth 100000 in
set_option maxHeartbeats 4000000 in
theorem e_MO_longer {l : Launch} {Q : Option Value → fx_H → Prop} {h : fx_H}  {x : Int} {y : Int}  {a : Nat → Nat} {pp dd : Nat} (hS : h.1 = fx_S0 a pp dd) 
    (H : (fx_V l M_MO_longer (0, 0) Q 0 0 7 [some (.ref 31), some (.int (zI x)), some (.int (zI y)), some (.int (zI (-1))), some (.int (zI 258))] [] h)) :
    fx_Mt l M_MO_longer (0, 0) [.ref 31, .int (zI x), .int (zI y)] h Q := by
  refine fx_entry (ls := [some (.ref 31), some (.int (zI x)), some (.int (zI y)), none, none]) (by decide) (Nat.le_of_ble_eq_true rfl) rfl ?_
  refine fx_iconst d_MO_longer_0 ?_
  refine fx_istore_n (i := 3) (ls2 := [some (.ref 31), some (.int (zI x)), some (.int (zI y)), some (.int (zI (-1))), none]) d_MO_longer_1 rfl (by decide) rfl ?_
  refine fx_sipush (v := 258) d_MO_longer_2 rfl ?_
  refine fx_istore (ls2 := [some (.ref 31), some (.int (zI x)), some (.int (zI y)), some (.int (zI (-1))), some (.int (zI 258))]) d_MO_longer_5 (by decide) rfl ?_
  exact H

set_option maxRecDepth 100000 in
set_option maxHeartbeats 4000000 in
theorem w_MO_longer_7 {l : Launch} {Q : Option Value → fx_H → Prop} {h : fx_H}  {x1 : Int} {x2 : Int} {x3 : Int} {x4 : Int}  {a : Nat → Nat} {pp dd : Nat} (hS : h.1 = fx_S0 a pp dd) 
    (H : zR x4 ∧ zR (h.2.1 31 28) ∧ (((h.2.1 31 28) ≤ x4 → Q (some (.int (zI x3))) h) ∧ (¬ ((h.2.1 31 28) ≤ x4) → 0 ≤ x4 ∧ x4 < 700 ∧ zR (h.2.2.1 39 (x4.toNat)) ∧ zR x1 ∧ ((¬ (h.2.2.1 39 (x4.toNat)) = x1 → (fx_V l M_MO_longer (0, 0) Q 0 0 7 [some (.ref 31), some (.int (zI x1)), some (.int (zI x2)), some (.int (zI x3)), some (.int (zI (x4 + 1)))] [] h)) ∧ ((h.2.2.1 39 (x4.toNat)) = x1 → 0 ≤ x4 ∧ x4 < 700 ∧ zR (h.2.2.1 40 (x4.toNat)) ∧ zR x2 ∧ ((¬ (h.2.2.1 40 (x4.toNat)) = x2 → (fx_V l M_MO_longer (0, 0) Q 0 0 7 [some (.ref 31), some (.int (zI x1)), some (.int (zI x2)), some (.int (zI x3)), some (.int (zI (x4 + 1)))] [] h)) ∧ ((h.2.2.1 40 (x4.toNat)) = x2 → (fx_V l M_MO_longer (0, 0) Q 0 0 7 [some (.ref 31), some (.int (zI x1)), some (.int (zI x2)), some (.int (zI x4)), some (.int (zI (x4 + 1)))] [] h)))))))) :
    fx_V l M_MO_longer (0, 0) Q 0 0 7 [some (.ref 31), some (.int (zI x1)), some (.int (zI x2)), some (.int (zI x3)), some (.int (zI x4))] [] h := by
  refine fx_iload d_MO_longer_7 rfl ?_
  refine fx_aload_n (i := 0) d_MO_longer_9 rfl rfl ?_
  refine fx_getI d_MO_longer_10 lk_MO_141 (at_31 (h := _) hS) rfl ?_
  obtain ⟨hz1, H⟩ := H
  obtain ⟨hz2, H⟩ := H
  refine fx_icmp_ge (t := 51) (n := 16) d_MO_longer_13 hz1 hz2 (fun z3 => ?_) (fun z3 => ?_)
  · replace H := H.1 z3
    refine fx_iload_n (i := 3) d_MO_longer_51 rfl rfl ?_
    exact fx_end (some (.int (zI x3))) ⟨⟨_, rfl, rfl⟩, d_MO_longer_52⟩ (Nat.le_refl _) (Nat.le_refl _) rfl H
  · replace H := H.2 z3
    refine fx_aload_n (i := 0) d_MO_longer_16 rfl rfl ?_
    refine fx_getR (q := 39) d_MO_longer_17 lk_MO_50 (at_31 (h := _) hS) rfl rfl ?_
    refine fx_iload d_MO_longer_20 rfl ?_
    obtain ⟨hn4, H⟩ := H
    obtain ⟨hn5, H⟩ := H
    refine fx_iald d_MO_longer_22 (at_39 (h := _) hS) hn4 hn5 (by decide) ?_
    refine fx_iload_n (i := 1) d_MO_longer_23 rfl rfl ?_
    obtain ⟨hz6, H⟩ := H
    obtain ⟨hz7, H⟩ := H
    refine fx_icmp_ne (t := 43) (n := 27) d_MO_longer_24 hz6 hz7 (fun z8 => ?_) (fun z8 => ?_)
    · replace H := H.1 z8
      refine fx_iload_n (i := 3) d_MO_longer_43 rfl rfl ?_
      refine fx_istore_n (i := 3) (ls2 := [some (.ref 31), some (.int (zI x1)), some (.int (zI x2)), some (.int (zI x3)), some (.int (zI x4))]) d_MO_longer_44 rfl (by decide) rfl ?_
      refine fx_iinc (v := x4 + 1) (ls2 := [some (.ref 31), some (.int (zI x1)), some (.int (zI x2)), some (.int (zI x3)), some (.int (zI (x4 + 1)))]) d_MO_longer_45 rfl rfl (by decide) rfl ?_
      refine fx_goto (n := 7) d_MO_longer_48 ?_
      exact H
    · replace H := H.2 z8
      refine fx_aload_n (i := 0) d_MO_longer_27 rfl rfl ?_
      refine fx_getR (q := 40) d_MO_longer_28 lk_MO_53 (at_31 (h := _) hS) rfl rfl ?_
      refine fx_iload d_MO_longer_31 rfl ?_
      obtain ⟨hn9, H⟩ := H
      obtain ⟨hn10, H⟩ := H
      refine fx_iald d_MO_longer_33 (at_40 (h := _) hS) hn9 hn10 (by decide) ?_
      refine fx_iload_n (i := 2) d_MO_longer_34 rfl rfl ?_
      obtain ⟨hz11, H⟩ := H
      obtain ⟨hz12, H⟩ := H
      refine fx_icmp_ne (t := 43) (n := 38) d_MO_longer_35 hz11 hz12 (fun z13 => ?_) (fun z13 => ?_)
      · replace H := H.1 z13
        refine fx_iload_n (i := 3) d_MO_longer_43 rfl rfl ?_
        refine fx_istore_n (i := 3) (ls2 := [some (.ref 31), some (.int (zI x1)), some (.int (zI x2)), some (.int (zI x3)), some (.int (zI x4))]) d_MO_longer_44 rfl (by decide) rfl ?_
        refine fx_iinc (v := x4 + 1) (ls2 := [some (.ref 31), some (.int (zI x1)), some (.int (zI x2)), some (.int (zI x3)), some (.int (zI (x4 + 1)))]) d_MO_longer_45 rfl rfl (by decide) rfl ?_
        refine fx_goto (n := 7) d_MO_longer_48 ?_
        exact H
      · replace H := H.2 z13
        refine fx_iload d_MO_longer_38 rfl ?_
        refine fx_goto (n := 44) d_MO_longer_40 ?_
        refine fx_istore_n (i := 3) (ls2 := [some (.ref 31), some (.int (zI x1)), some (.int (zI x2)), some (.int (zI x4)), some (.int (zI x4))]) d_MO_longer_44 rfl (by decide) rfl ?_
        refine fx_iinc (v := x4 + 1) (ls2 := [some (.ref 31), some (.int (zI x1)), some (.int (zI x2)), some (.int (zI x4)), some (.int (zI (x4 + 1)))]) d_MO_longer_45 rfl rfl (by decide) rfl ?_
        refine fx_goto (n := 7) d_MO_longer_48 ?_
        exact H

set_option maxRecDepth 100000 in
set_option maxHeartbeats 4000000 in
theorem e_MO_digitsOf {l : Launch} {Q : Option Value → fx_H → Prop} {h : fx_H}  {x : Int}  {a : Nat → Nat} {pp dd : Nat} (hS : h.1 = fx_S0 a pp dd) 
    (H : zR x ∧ ((255 ≤ x → ((767 ≤ x → Q (some (.int (zI 11))) h) ∧ (¬ (767 ≤ x) → Q (some (.int (zI 10))) h))) ∧ (¬ (255 ≤ x) → Q (some (.int (zI 9))) h))) :
    fx_Mt l M_MO_digitsOf (0, 0) [.int (zI x)] h Q := by
  refine fx_entry (ls := [some (.int (zI x))]) (by decide) (Nat.le_of_ble_eq_true rfl) rfl ?_
  refine fx_iload_n (i := 0) d_MO_digitsOf_0 rfl rfl ?_
  refine fx_sipush (v := 255) d_MO_digitsOf_1 rfl ?_
  obtain ⟨hz1, H⟩ := H
  refine fx_icmp_ge (t := 12) (n := 7) d_MO_digitsOf_4 hz1 (show zR 255 by decide) (fun z2 => ?_) (fun z2 => ?_)
  · replace H := H.1 z2
    refine fx_iload_n (i := 0) d_MO_digitsOf_12 rfl rfl ?_
    refine fx_sipush (v := 767) d_MO_digitsOf_13 rfl ?_
    refine fx_icmp_ge (t := 24) (n := 19) d_MO_digitsOf_16 hz1 (show zR 767 by decide) (fun z3 => ?_) (fun z3 => ?_)
    · replace H := H.1 z3
      refine fx_bipush (v := 11) d_MO_digitsOf_24 rfl ?_
      exact fx_end (some (.int (zI 11))) ⟨⟨_, rfl, rfl⟩, d_MO_digitsOf_26⟩ (Nat.le_refl _) (Nat.le_refl _) rfl H
    · replace H := H.2 z3
      refine fx_bipush (v := 10) d_MO_digitsOf_19 rfl ?_
      refine fx_goto (n := 26) d_MO_digitsOf_21 ?_
      exact fx_end (some (.int (zI 10))) ⟨⟨_, rfl, rfl⟩, d_MO_digitsOf_26⟩ (Nat.le_refl _) (Nat.le_refl _) rfl H
  · replace H := H.2 z2
    refine fx_bipush (v := 9) d_MO_digitsOf_7 rfl ?_
    refine fx_goto (n := 26) d_MO_digitsOf_9 ?_
    exact fx_end (some (.int (zI 9))) ⟨⟨_, rfl, rfl⟩, d_MO_digitsOf_26⟩ (Nat.le_refl _) (Nat.le_refl _) rfl H

set_option maxRecDepth 100000 in
set_option maxHeartbeats 4000000 in
theorem e_MO_make {l : Launch} {Q : Option Value → fx_H → Prop} {h : fx_H}  {x : Int} {y : Int}  {a : Nat → Nat} {pp dd : Nat} (hS : h.1 = fx_S0 a pp dd) 
    (H : 0 ≤ (h.2.1 31 28) ∧ (h.2.1 31 28) < 700 ∧ 0 ≤ (h.2.1 31 28) ∧ (h.2.1 31 28) < 700 ∧ Q none (fx_uF (fx_uA (fx_uA h 39 ((h.2.1 31 28).toNat) x) 40 ((h.2.1 31 28).toNat) y) 31 28 ((h.2.1 31 28) + 1))) :
    fx_Mt l M_MO_make (0, 0) [.ref 31, .int (zI x), .int (zI y)] h Q := by
  refine fx_entry (ls := [some (.ref 31), some (.int (zI x)), some (.int (zI y))]) (by decide) (Nat.le_of_ble_eq_true rfl) rfl ?_
  refine fx_aload_n (i := 0) d_MO_make_0 rfl rfl ?_
  refine fx_getR (q := 39) d_MO_make_1 lk_MO_50 (at_31 (h := _) hS) rfl rfl ?_
  refine fx_aload_n (i := 0) d_MO_make_4 rfl rfl ?_
  refine fx_getI d_MO_make_5 lk_MO_141 (at_31 (h := _) hS) rfl ?_
  refine fx_iload_n (i := 1) d_MO_make_8 rfl rfl ?_
  obtain ⟨hn1, H⟩ := H
  obtain ⟨hn2, H⟩ := H
  refine fx_iast d_MO_make_9 (at_39 (h := _) hS) hn1 hn2 (by decide) ?_
  refine fx_aload_n (i := 0) d_MO_make_10 rfl rfl ?_
  refine fx_getR (q := 40) d_MO_make_11 lk_MO_53 (at_31 (h := _) hS) rfl rfl ?_
  refine fx_aload_n (i := 0) d_MO_make_14 rfl rfl ?_
  refine fx_getI d_MO_make_15 lk_MO_141 (at_31 (h := _) hS) rfl ?_
  refine fx_iload_n (i := 2) d_MO_make_18 rfl rfl ?_
  obtain ⟨hn3, H⟩ := H
  obtain ⟨hn4, H⟩ := H
  refine fx_iast d_MO_make_19 (at_40 (h := _) hS) hn3 hn4 (by decide) ?_
  refine fx_aload_n (i := 0) d_MO_make_20 rfl rfl ?_
  refine fx_dup d_MO_make_21 rfl ?_
  refine fx_getI d_MO_make_22 lk_MO_141 (at_31 (h := _) hS) rfl ?_
  refine fx_iconst d_MO_make_25 ?_
  refine fx_iadd d_MO_make_26 ?_
  refine fx_putI d_MO_make_27 lk_MO_141 (at_31 (h := _) hS) rfl rfl rfl ?_
  exact fx_end none ⟨rfl, d_MO_make_30⟩ (Nat.le_refl _) (Nat.le_refl _) rfl H

set_option maxRecDepth 100000 in
set_option maxHeartbeats 4000000 in
theorem e_MO_outRest {l : Launch} {Q : Option Value → fx_H → Prop} {h : fx_H}    {a : Nat → Nat} {pp dd : Nat} (hS : h.1 = fx_S0 a pp dd) 
    (H : (fx_V l M_MO_outRest (0, 0) Q 0 0 0 [some (.ref 31)] [] h)) :
    fx_Mt l M_MO_outRest (0, 0) [.ref 31] h Q := by
  refine fx_entry (ls := [some (.ref 31)]) (by decide) (Nat.le_of_ble_eq_true rfl) rfl ?_
  exact H

set_option maxRecDepth 100000 in
set_option maxHeartbeats 4000000 in
theorem w_MO_outRest_0 {l : Launch} {Q : Option Value → fx_H → Prop} {h : fx_H}    {a : Nat → Nat} {pp dd : Nat} (hS : h.1 = fx_S0 a pp dd) 
    (H : zR (h.2.1 31 19) ∧ (((h.2.1 31 19) ≤ 0 → Q none h) ∧ (¬ ((h.2.1 31 19) ≤ 0) → fx_Mt l M_MO_outBit (0, 0) [.ref 31, .int (zI 0)] h (fun v h3 => v = none ∧ h3.1 = h.1 ∧ (fx_V l M_MO_outRest (0, 0) Q 0 0 0 [some (.ref 31)] [] h3))))) :
    fx_V l M_MO_outRest (0, 0) Q 0 0 0 [some (.ref 31)] [] h := by
  refine fx_aload_n (i := 0) d_MO_outRest_0 rfl rfl ?_
  refine fx_getI d_MO_outRest_1 lk_MO_118 (at_31 (h := _) hS) rfl ?_
  obtain ⟨hz1, H⟩ := H
  refine fx_if_le (t := 15) (n := 7) d_MO_outRest_4 hz1 (fun z2 => ?_) (fun z2 => ?_)
  · replace H := H.1 z2
    exact fx_end none ⟨rfl, d_MO_outRest_15⟩ (Nat.le_refl _) (Nat.le_refl _) rfl H
  · replace H := H.2 z2
    refine fx_aload_n (i := 0) d_MO_outRest_7 rfl rfl ?_
    refine fx_iconst d_MO_outRest_8 ?_
    refine fx_callV (M' := M_MO_outBit) (B' := (0, 0)) (vs := [.int (zI 0)]) (rest := []) (c1 := 0) (s1 := 0) (n := 12) d_MO_outRest_9 ca_MO_outRest_121 (at_31 (h := _) hS) rfl rfl rfl ⟨by decide, by decide⟩ (Nat.le_of_ble_eq_true rfl) (Or.inl rfl) (fx_Mt.mono H fun v h3 hv => ?_)
    obtain ⟨rfl, e4, H⟩ := hv
    have hS3 := e4.trans hS
    show fx_V l M_MO_outRest (0, 0) Q 0 0 12 [some (.ref 31)] [] h3
    refine fx_goto (n := 0) d_MO_outRest_12 ?_
    exact H

set_option maxRecDepth 100000 in
set_option maxHeartbeats 4000000 in
theorem e_MO_outFax {l : Launch} {Q : Option Value → fx_H → Prop} {h : fx_H}  {x : Int} {y : Int}  {a : Nat → Nat} {pp dd : Nat} (hS : h.1 = fx_S0 a pp dd) 
    (H : (fx_V l M_MO_outFax (0, 0) Q 0 0 2 [some (.ref 31), some (.int (zI x)), some (.int (zI y)), some (.int (zI x))] [] h)) :
    fx_Mt l M_MO_outFax (0, 0) [.ref 31, .int (zI x), .int (zI y)] h Q := by
  refine fx_entry (ls := [some (.ref 31), some (.int (zI x)), some (.int (zI y)), none]) (by decide) (Nat.le_of_ble_eq_true rfl) rfl ?_
  refine fx_iload_n (i := 1) d_MO_outFax_0 rfl rfl ?_
  refine fx_istore_n (i := 3) (ls2 := [some (.ref 31), some (.int (zI x)), some (.int (zI y)), some (.int (zI x))]) d_MO_outFax_1 rfl (by decide) rfl ?_
  exact H

set_option maxRecDepth 100000 in
set_option maxHeartbeats 4000000 in
theorem w_MO_outFax_2 {l : Launch} {Q : Option Value → fx_H → Prop} {h : fx_H}  {x1 : Int} {x2 : Int} {x3 : Int}  {a : Nat → Nat} {pp dd : Nat} (hS : h.1 = fx_S0 a pp dd) 
    (H : zR x3 ∧ zR (x1 + x2) ∧ (((x1 + x2) ≤ x3 → zR (h.2.1 31 12) ∧ ((¬ (h.2.1 31 12) = 4 → fx_Mt l M_MO_outRest (0, 0) [.ref 31] h (fun v h6 => v = none ∧ h6.1 = h.1 ∧ Q none h6)) ∧ ((h.2.1 31 12) = 4 → fx_Mt l M_MO_outBits (0, 0) [.ref 31, .int (zI 1), .int (zI 12)] h (fun v h8 => v = none ∧ h8.1 = h.1 ∧ fx_Mt l M_MO_outBits (0, 0) [.ref 31, .int (zI 1), .int (zI 12)] h8 (fun v h10 => v = none ∧ h10.1 = h8.1 ∧ fx_Mt l M_MO_outRest (0, 0) [.ref 31] h10 (fun v h12 => v = none ∧ h12.1 = h10.1 ∧ Q none h12)))))) ∧ (¬ ((x1 + x2) ≤ x3) → zR x1 ∧ ((¬ x3 = x1 → fx_Mt l M_MO_bring (0, 0) [.ref 31, .int (zI x3), .int (zI 0)] h (fun v h16 => v = none ∧ h16.1 = h.1 ∧ zR (h16.2.1 31 12) ∧ ((¬ (h16.2.1 31 12) = 3 → ((¬ (h16.2.1 31 12) = 3 → fx_Mt l M_MO_outBy (0, 0) [.ref 31] h16 (fun v h21 => v = none ∧ h21.1 = h16.1 ∧ (fx_V l M_MO_outFax (0, 0) Q 0 0 2 [some (.ref 31), some (.int (zI x1)), some (.int (zI x2)), some (.int (zI (x3 + 1)))] [] h21))) ∧ ((h16.2.1 31 12) = 3 → 0 ≤ (x3 - x1) ∧ zR (x3 - x1) ∧ zR ((x3 - x1) % 4) ∧ ((¬ ((x3 - x1) % 4) = 0 → fx_Mt l M_MO_outBy (0, 0) [.ref 31] h16 (fun v h27 => v = none ∧ h27.1 = h16.1 ∧ (fx_V l M_MO_outFax (0, 0) Q 0 0 2 [some (.ref 31), some (.int (zI x1)), some (.int (zI x2)), some (.int (zI (x3 + 1)))] [] h27))) ∧ (((x3 - x1) % 4) = 0 → fx_Mt l M_MO_outItself (0, 0) [.ref 31] h16 (fun v h29 => v = none ∧ h29.1 = h16.1 ∧ (fx_V l M_MO_outFax (0, 0) Q 0 0 2 [some (.ref 31), some (.int (zI x1)), some (.int (zI x2)), some (.int (zI (x3 + 1)))] [] h29))))))) ∧ ((h16.2.1 31 12) = 3 → fx_Mt l M_MO_outBits (0, 0) [.ref 31, .int (zI 1), .int (zI 12)] h16 (fun v h31 => v = none ∧ h31.1 = h16.1 ∧ 0 ≤ (x3 - x1) ∧ zR (x3 - x1) ∧ zR ((x3 - x1) % 4) ∧ ((¬ ((x3 - x1) % 4) = 0 → fx_Mt l M_MO_outBit (0, 0) [.ref 31, .int (zI 0)] h31 (fun v h37 => v = none ∧ h37.1 = h31.1 ∧ zR (h37.2.1 31 12) ∧ ((¬ (h37.2.1 31 12) = 3 → fx_Mt l M_MO_outBy (0, 0) [.ref 31] h37 (fun v h41 => v = none ∧ h41.1 = h37.1 ∧ (fx_V l M_MO_outFax (0, 0) Q 0 0 2 [some (.ref 31), some (.int (zI x1)), some (.int (zI x2)), some (.int (zI (x3 + 1)))] [] h41))) ∧ ((h37.2.1 31 12) = 3 → 0 ≤ (x3 - x1) ∧ ((¬ ((x3 - x1) % 4) = 0 → fx_Mt l M_MO_outBy (0, 0) [.ref 31] h37 (fun v h45 => v = none ∧ h45.1 = h37.1 ∧ (fx_V l M_MO_outFax (0, 0) Q 0 0 2 [some (.ref 31), some (.int (zI x1)), some (.int (zI x2)), some (.int (zI (x3 + 1)))] [] h45))) ∧ (((x3 - x1) % 4) = 0 → fx_Mt l M_MO_outItself (0, 0) [.ref 31] h37 (fun v h47 => v = none ∧ h47.1 = h37.1 ∧ (fx_V l M_MO_outFax (0, 0) Q 0 0 2 [some (.ref 31), some (.int (zI x1)), some (.int (zI x2)), some (.int (zI (x3 + 1)))] [] h47)))))))) ∧ (((x3 - x1) % 4) = 0 → fx_Mt l M_MO_outBit (0, 0) [.ref 31, .int (zI 1)] h31 (fun v h49 => v = none ∧ h49.1 = h31.1 ∧ zR (h49.2.1 31 12) ∧ ((¬ (h49.2.1 31 12) = 3 → fx_Mt l M_MO_outBy (0, 0) [.ref 31] h49 (fun v h53 => v = none ∧ h53.1 = h49.1 ∧ (fx_V l M_MO_outFax (0, 0) Q 0 0 2 [some (.ref 31), some (.int (zI x1)), some (.int (zI x2)), some (.int (zI (x3 + 1)))] [] h53))) ∧ ((h49.2.1 31 12) = 3 → 0 ≤ (x3 - x1) ∧ ((¬ ((x3 - x1) % 4) = 0 → fx_Mt l M_MO_outBy (0, 0) [.ref 31] h49 (fun v h57 => v = none ∧ h57.1 = h49.1 ∧ (fx_V l M_MO_outFax (0, 0) Q 0 0 2 [some (.ref 31), some (.int (zI x1)), some (.int (zI x2)), some (.int (zI (x3 + 1)))] [] h57))) ∧ (((x3 - x1) % 4) = 0 → fx_Mt l M_MO_outItself (0, 0) [.ref 31] h49 (fun v h59 => v = none ∧ h59.1 = h49.1 ∧ (fx_V l M_MO_outFax (0, 0) Q 0 0 2 [some (.ref 31), some (.int (zI x1)), some (.int (zI x2)), some (.int (zI (x3 + 1)))] [] h59)))))))))))))) ∧ (x3 = x1 → fx_Mt l M_MO_bring (0, 0) [.ref 31, .int (zI x3), .int (zI 1)] h (fun v h61 => v = none ∧ h61.1 = h.1 ∧ zR (h61.2.1 31 12) ∧ ((¬ (h61.2.1 31 12) = 3 → ((¬ (h61.2.1 31 12) = 3 → fx_Mt l M_MO_outBy (0, 0) [.ref 31] h61 (fun v h66 => v = none ∧ h66.1 = h61.1 ∧ (fx_V l M_MO_outFax (0, 0) Q 0 0 2 [some (.ref 31), some (.int (zI x1)), some (.int (zI x2)), some (.int (zI (x3 + 1)))] [] h66))) ∧ ((h61.2.1 31 12) = 3 → 0 ≤ (x3 - x1) ∧ zR (x3 - x1) ∧ zR ((x3 - x1) % 4) ∧ ((¬ ((x3 - x1) % 4) = 0 → fx_Mt l M_MO_outBy (0, 0) [.ref 31] h61 (fun v h72 => v = none ∧ h72.1 = h61.1 ∧ (fx_V l M_MO_outFax (0, 0) Q 0 0 2 [some (.ref 31), some (.int (zI x1)), some (.int (zI x2)), some (.int (zI (x3 + 1)))] [] h72))) ∧ (((x3 - x1) % 4) = 0 → fx_Mt l M_MO_outItself (0, 0) [.ref 31] h61 (fun v h74 => v = none ∧ h74.1 = h61.1 ∧ (fx_V l M_MO_outFax (0, 0) Q 0 0 2 [some (.ref 31), some (.int (zI x1)), some (.int (zI x2)), some (.int (zI (x3 + 1)))] [] h74))))))) ∧ ((h61.2.1 31 12) = 3 → fx_Mt l M_MO_outBits (0, 0) [.ref 31, .int (zI 1), .int (zI 12)] h61 (fun v h76 => v = none ∧ h76.1 = h61.1 ∧ 0 ≤ (x3 - x1) ∧ zR (x3 - x1) ∧ zR ((x3 - x1) % 4) ∧ ((¬ ((x3 - x1) % 4) = 0 → fx_Mt l M_MO_outBit (0, 0) [.ref 31, .int (zI 0)] h76 (fun v h82 => v = none ∧ h82.1 = h76.1 ∧ zR (h82.2.1 31 12) ∧ ((¬ (h82.2.1 31 12) = 3 → fx_Mt l M_MO_outBy (0, 0) [.ref 31] h82 (fun v h86 => v = none ∧ h86.1 = h82.1 ∧ (fx_V l M_MO_outFax (0, 0) Q 0 0 2 [some (.ref 31), some (.int (zI x1)), some (.int (zI x2)), some (.int (zI (x3 + 1)))] [] h86))) ∧ ((h82.2.1 31 12) = 3 → 0 ≤ (x3 - x1) ∧ ((¬ ((x3 - x1) % 4) = 0 → fx_Mt l M_MO_outBy (0, 0) [.ref 31] h82 (fun v h90 => v = none ∧ h90.1 = h82.1 ∧ (fx_V l M_MO_outFax (0, 0) Q 0 0 2 [some (.ref 31), some (.int (zI x1)), some (.int (zI x2)), some (.int (zI (x3 + 1)))] [] h90))) ∧ (((x3 - x1) % 4) = 0 → fx_Mt l M_MO_outItself (0, 0) [.ref 31] h82 (fun v h92 => v = none ∧ h92.1 = h82.1 ∧ (fx_V l M_MO_outFax (0, 0) Q 0 0 2 [some (.ref 31), some (.int (zI x1)), some (.int (zI x2)), some (.int (zI (x3 + 1)))] [] h92)))))))) ∧ (((x3 - x1) % 4) = 0 → fx_Mt l M_MO_outBit (0, 0) [.ref 31, .int (zI 1)] h76 (fun v h94 => v = none ∧ h94.1 = h76.1 ∧ zR (h94.2.1 31 12) ∧ ((¬ (h94.2.1 31 12) = 3 → fx_Mt l M_MO_outBy (0, 0) [.ref 31] h94 (fun v h98 => v = none ∧ h98.1 = h94.1 ∧ (fx_V l M_MO_outFax (0, 0) Q 0 0 2 [some (.ref 31), some (.int (zI x1)), some (.int (zI x2)), some (.int (zI (x3 + 1)))] [] h98))) ∧ ((h94.2.1 31 12) = 3 → 0 ≤ (x3 - x1) ∧ ((¬ ((x3 - x1) % 4) = 0 → fx_Mt l M_MO_outBy (0, 0) [.ref 31] h94 (fun v h102 => v = none ∧ h102.1 = h94.1 ∧ (fx_V l M_MO_outFax (0, 0) Q 0 0 2 [some (.ref 31), some (.int (zI x1)), some (.int (zI x2)), some (.int (zI (x3 + 1)))] [] h102))) ∧ (((x3 - x1) % 4) = 0 → fx_Mt l M_MO_outItself (0, 0) [.ref 31] h94 (fun v h104 => v = none ∧ h104.1 = h94.1 ∧ (fx_V l M_MO_outFax (0, 0) Q 0 0 2 [some (.ref 31), some (.int (zI x1)), some (.int (zI x2)), some (.int (zI (x3 + 1)))] [] h104)))))))))))))))))) :
    fx_V l M_MO_outFax (0, 0) Q 0 0 2 [some (.ref 31), some (.int (zI x1)), some (.int (zI x2)), some (.int (zI x3))] [] h := by
  refine fx_iload_n (i := 3) d_MO_outFax_2 rfl rfl ?_
  refine fx_iload_n (i := 1) d_MO_outFax_3 rfl rfl ?_
  refine fx_iload_n (i := 2) d_MO_outFax_4 rfl rfl ?_
  refine fx_iadd d_MO_outFax_5 ?_
  obtain ⟨hz1, H⟩ := H
  obtain ⟨hz2, H⟩ := H
  refine fx_icmp_ge (t := 89) (n := 9) d_MO_outFax_6 hz1 hz2 (fun z3 => ?_) (fun z3 => ?_)
  · replace H := H.1 z3
    refine fx_aload_n (i := 0) d_MO_outFax_89 rfl rfl ?_
    refine fx_getI d_MO_outFax_90 lk_MO_180 (at_31 (h := _) hS) rfl ?_
    refine fx_iconst d_MO_outFax_93 ?_
    obtain ⟨hz4, H⟩ := H
    refine fx_icmp_ne (t := 111) (n := 97) d_MO_outFax_94 hz4 (show zR 4 by decide) (fun z5 => ?_) (fun z5 => ?_)
    · replace H := H.1 z5
      refine fx_aload_n (i := 0) d_MO_outFax_111 rfl rfl ?_
      refine fx_callV (M' := M_MO_outRest) (B' := (0, 0)) (vs := []) (rest := []) (c1 := 0) (s1 := 0) (n := 115) d_MO_outFax_112 ca_MO_outFax_155 (at_31 (h := _) hS) rfl rfl rfl ⟨by decide, by decide⟩ (Nat.le_of_ble_eq_true rfl) (Or.inl rfl) (fx_Mt.mono H fun v h6 hv => ?_)
      obtain ⟨rfl, e7, H⟩ := hv
      have hS6 := e7.trans hS
      show fx_V l M_MO_outFax (0, 0) Q 0 0 115 [some (.ref 31), some (.int (zI x1)), some (.int (zI x2)), some (.int (zI x3))] [] h6
      exact fx_end none ⟨rfl, d_MO_outFax_115⟩ (Nat.le_refl _) (Nat.le_refl _) rfl H
    · replace H := H.2 z5
      refine fx_aload_n (i := 0) d_MO_outFax_97 rfl rfl ?_
      refine fx_iconst d_MO_outFax_98 ?_
      refine fx_bipush (v := 12) d_MO_outFax_99 rfl ?_
      refine fx_callV (M' := M_MO_outBits) (B' := (0, 0)) (vs := [.int (zI 1), .int (zI 12)]) (rest := []) (c1 := 0) (s1 := 0) (n := 104) d_MO_outFax_101 ca_MO_outFax_124 (at_31 (h := _) hS) rfl rfl rfl ⟨by decide, by decide⟩ (Nat.le_of_ble_eq_true rfl) (Or.inl rfl) (fx_Mt.mono H fun v h8 hv => ?_)
      obtain ⟨rfl, e9, H⟩ := hv
      have hS8 := e9.trans hS
      show fx_V l M_MO_outFax (0, 0) Q 0 0 104 [some (.ref 31), some (.int (zI x1)), some (.int (zI x2)), some (.int (zI x3))] [] h8
      refine fx_aload_n (i := 0) d_MO_outFax_104 rfl rfl ?_
      refine fx_iconst d_MO_outFax_105 ?_
      refine fx_bipush (v := 12) d_MO_outFax_106 rfl ?_
      refine fx_callV (M' := M_MO_outBits) (B' := (0, 0)) (vs := [.int (zI 1), .int (zI 12)]) (rest := []) (c1 := 0) (s1 := 0) (n := 111) d_MO_outFax_108 ca_MO_outFax_124 (at_31 (h := _) hS8) rfl rfl rfl ⟨by decide, by decide⟩ (Nat.le_of_ble_eq_true rfl) (Or.inl rfl) (fx_Mt.mono H fun v h10 hv => ?_)
      obtain ⟨rfl, e11, H⟩ := hv
      have hS10 := e11.trans hS8
      show fx_V l M_MO_outFax (0, 0) Q 0 0 111 [some (.ref 31), some (.int (zI x1)), some (.int (zI x2)), some (.int (zI x3))] [] h10
      refine fx_aload_n (i := 0) d_MO_outFax_111 rfl rfl ?_
      refine fx_callV (M' := M_MO_outRest) (B' := (0, 0)) (vs := []) (rest := []) (c1 := 0) (s1 := 0) (n := 115) d_MO_outFax_112 ca_MO_outFax_155 (at_31 (h := _) hS10) rfl rfl rfl ⟨by decide, by decide⟩ (Nat.le_of_ble_eq_true rfl) (Or.inl rfl) (fx_Mt.mono H fun v h12 hv => ?_)
      obtain ⟨rfl, e13, H⟩ := hv
      have hS12 := e13.trans hS10
      show fx_V l M_MO_outFax (0, 0) Q 0 0 115 [some (.ref 31), some (.int (zI x1)), some (.int (zI x2)), some (.int (zI x3))] [] h12
      exact fx_end none ⟨rfl, d_MO_outFax_115⟩ (Nat.le_refl _) (Nat.le_refl _) rfl H
  · replace H := H.2 z3
    refine fx_aload_n (i := 0) d_MO_outFax_9 rfl rfl ?_
    refine fx_iload_n (i := 3) d_MO_outFax_10 rfl rfl ?_
    refine fx_iload_n (i := 3) d_MO_outFax_11 rfl rfl ?_
    refine fx_iload_n (i := 1) d_MO_outFax_12 rfl rfl ?_
    obtain ⟨hz14, H⟩ := H
    refine fx_icmp_ne (t := 20) (n := 16) d_MO_outFax_13 hz1 hz14 (fun z15 => ?_) (fun z15 => ?_)
    · replace H := H.1 z15
      refine fx_iconst d_MO_outFax_20 ?_
      refine fx_callV (M' := M_MO_bring) (B' := (0, 0)) (vs := [.int (zI x3), .int (zI 0)]) (rest := []) (c1 := 0) (s1 := 0) (n := 24) d_MO_outFax_21 ca_MO_outFax_176 (at_31 (h := _) hS) rfl rfl rfl ⟨by decide, by decide⟩ (Nat.le_of_ble_eq_true rfl) (Or.inl rfl) (fx_Mt.mono H fun v h16 hv => ?_)
      obtain ⟨rfl, e17, H⟩ := hv
      have hS16 := e17.trans hS
      show fx_V l M_MO_outFax (0, 0) Q 0 0 24 [some (.ref 31), some (.int (zI x1)), some (.int (zI x2)), some (.int (zI x3))] [] h16
      refine fx_aload_n (i := 0) d_MO_outFax_24 rfl rfl ?_
      refine fx_getI d_MO_outFax_25 lk_MO_180 (at_31 (h := _) hS16) rfl ?_
      refine fx_iconst d_MO_outFax_28 ?_
      obtain ⟨hz18, H⟩ := H
      refine fx_icmp_ne (t := 56) (n := 32) d_MO_outFax_29 hz18 (show zR 3 by decide) (fun z19 => ?_) (fun z19 => ?_)
      · replace H := H.1 z19
        refine fx_aload_n (i := 0) d_MO_outFax_56 rfl rfl ?_
        refine fx_getI d_MO_outFax_57 lk_MO_180 (at_31 (h := _) hS16) rfl ?_
        refine fx_iconst d_MO_outFax_60 ?_
        refine fx_icmp_ne (t := 79) (n := 64) d_MO_outFax_61 hz18 (show zR 3 by decide) (fun z20 => ?_) (fun z20 => ?_)
        · replace H := H.1 z20
          refine fx_aload_n (i := 0) d_MO_outFax_79 rfl rfl ?_
          refine fx_callV (M' := M_MO_outBy) (B' := (0, 0)) (vs := []) (rest := []) (c1 := 0) (s1 := 0) (n := 83) d_MO_outFax_80 ca_MO_outFax_186 (at_31 (h := _) hS16) rfl rfl rfl ⟨by decide, by decide⟩ (Nat.le_of_ble_eq_true rfl) (Or.inl rfl) (fx_Mt.mono H fun v h21 hv => ?_)
          obtain ⟨rfl, e22, H⟩ := hv
          have hS21 := e22.trans hS16
          show fx_V l M_MO_outFax (0, 0) Q 0 0 83 [some (.ref 31), some (.int (zI x1)), some (.int (zI x2)), some (.int (zI x3))] [] h21
          refine fx_iinc (v := x3 + 1) (ls2 := [some (.ref 31), some (.int (zI x1)), some (.int (zI x2)), some (.int (zI (x3 + 1)))]) d_MO_outFax_83 rfl rfl (by decide) rfl ?_
          refine fx_goto (n := 2) d_MO_outFax_86 ?_
          exact H
        · replace H := H.2 z20
          refine fx_iload_n (i := 3) d_MO_outFax_64 rfl rfl ?_
          refine fx_iload_n (i := 1) d_MO_outFax_65 rfl rfl ?_
          refine fx_isub d_MO_outFax_66 ?_
          refine fx_iconst d_MO_outFax_67 ?_
          obtain ⟨hn23, H⟩ := H
          obtain ⟨hz24, H⟩ := H
          refine fx_irem d_MO_outFax_68 hn23 hz24 (show (0 : Int) < 4 by decide) (show zR 4 by decide) ?_
          obtain ⟨hz25, H⟩ := H
          refine fx_if_ne (t := 79) (n := 72) d_MO_outFax_69 hz25 (fun z26 => ?_) (fun z26 => ?_)
          · replace H := H.1 z26
            refine fx_aload_n (i := 0) d_MO_outFax_79 rfl rfl ?_
            refine fx_callV (M' := M_MO_outBy) (B' := (0, 0)) (vs := []) (rest := []) (c1 := 0) (s1 := 0) (n := 83) d_MO_outFax_80 ca_MO_outFax_186 (at_31 (h := _) hS16) rfl rfl rfl ⟨by decide, by decide⟩ (Nat.le_of_ble_eq_true rfl) (Or.inl rfl) (fx_Mt.mono H fun v h27 hv => ?_)
            obtain ⟨rfl, e28, H⟩ := hv
            have hS27 := e28.trans hS16
            show fx_V l M_MO_outFax (0, 0) Q 0 0 83 [some (.ref 31), some (.int (zI x1)), some (.int (zI x2)), some (.int (zI x3))] [] h27
            refine fx_iinc (v := x3 + 1) (ls2 := [some (.ref 31), some (.int (zI x1)), some (.int (zI x2)), some (.int (zI (x3 + 1)))]) d_MO_outFax_83 rfl rfl (by decide) rfl ?_
            refine fx_goto (n := 2) d_MO_outFax_86 ?_
            exact H
          · replace H := H.2 z26
            refine fx_aload_n (i := 0) d_MO_outFax_72 rfl rfl ?_
            refine fx_callV (M' := M_MO_outItself) (B' := (0, 0)) (vs := []) (rest := []) (c1 := 0) (s1 := 0) (n := 76) d_MO_outFax_73 ca_MO_outFax_183 (at_31 (h := _) hS16) rfl rfl rfl ⟨by decide, by decide⟩ (Nat.le_of_ble_eq_true rfl) (Or.inl rfl) (fx_Mt.mono H fun v h29 hv => ?_)
            obtain ⟨rfl, e30, H⟩ := hv
            have hS29 := e30.trans hS16
            show fx_V l M_MO_outFax (0, 0) Q 0 0 76 [some (.ref 31), some (.int (zI x1)), some (.int (zI x2)), some (.int (zI x3))] [] h29
            refine fx_goto (n := 83) d_MO_outFax_76 ?_
            refine fx_iinc (v := x3 + 1) (ls2 := [some (.ref 31), some (.int (zI x1)), some (.int (zI x2)), some (.int (zI (x3 + 1)))]) d_MO_outFax_83 rfl rfl (by decide) rfl ?_
            refine fx_goto (n := 2) d_MO_outFax_86 ?_
            exact H
      · replace H := H.2 z19
        refine fx_aload_n (i := 0) d_MO_outFax_32 rfl rfl ?_
        refine fx_iconst d_MO_outFax_33 ?_
        refine fx_bipush (v := 12) d_MO_outFax_34 rfl ?_
        refine fx_callV (M' := M_MO_outBits) (B' := (0, 0)) (vs := [.int (zI 1), .int (zI 12)]) (rest := []) (c1 := 0) (s1 := 0) (n := 39) d_MO_outFax_36 ca_MO_outFax_124 (at_31 (h := _) hS16) rfl rfl rfl ⟨by decide, by decide⟩ (Nat.le_of_ble_eq_true rfl) (Or.inl rfl) (fx_Mt.mono H fun v h31 hv => ?_)
        obtain ⟨rfl, e32, H⟩ := hv
        have hS31 := e32.trans hS16
        show fx_V l M_MO_outFax (0, 0) Q 0 0 39 [some (.ref 31), some (.int (zI x1)), some (.int (zI x2)), some (.int (zI x3))] [] h31
        refine fx_aload_n (i := 0) d_MO_outFax_39 rfl rfl ?_
        refine fx_iload_n (i := 3) d_MO_outFax_40 rfl rfl ?_
        refine fx_iload_n (i := 1) d_MO_outFax_41 rfl rfl ?_
        refine fx_isub d_MO_outFax_42 ?_
        refine fx_iconst d_MO_outFax_43 ?_
        obtain ⟨hn33, H⟩ := H
        obtain ⟨hz34, H⟩ := H
        refine fx_irem d_MO_outFax_44 hn33 hz34 (show (0 : Int) < 4 by decide) (show zR 4 by decide) ?_
        obtain ⟨hz35, H⟩ := H
        refine fx_if_ne (t := 52) (n := 48) d_MO_outFax_45 hz35 (fun z36 => ?_) (fun z36 => ?_)
        · replace H := H.1 z36
          refine fx_iconst d_MO_outFax_52 ?_
          refine fx_callV (M' := M_MO_outBit) (B' := (0, 0)) (vs := [.int (zI 0)]) (rest := []) (c1 := 0) (s1 := 0) (n := 56) d_MO_outFax_53 ca_MO_outFax_121 (at_31 (h := _) hS31) rfl rfl rfl ⟨by decide, by decide⟩ (Nat.le_of_ble_eq_true rfl) (Or.inl rfl) (fx_Mt.mono H fun v h37 hv => ?_)
          obtain ⟨rfl, e38, H⟩ := hv
          have hS37 := e38.trans hS31
          show fx_V l M_MO_outFax (0, 0) Q 0 0 56 [some (.ref 31), some (.int (zI x1)), some (.int (zI x2)), some (.int (zI x3))] [] h37
          refine fx_aload_n (i := 0) d_MO_outFax_56 rfl rfl ?_
          refine fx_getI d_MO_outFax_57 lk_MO_180 (at_31 (h := _) hS37) rfl ?_
          refine fx_iconst d_MO_outFax_60 ?_
          obtain ⟨hz39, H⟩ := H
          refine fx_icmp_ne (t := 79) (n := 64) d_MO_outFax_61 hz39 (show zR 3 by decide) (fun z40 => ?_) (fun z40 => ?_)
          · replace H := H.1 z40
            refine fx_aload_n (i := 0) d_MO_outFax_79 rfl rfl ?_
            refine fx_callV (M' := M_MO_outBy) (B' := (0, 0)) (vs := []) (rest := []) (c1 := 0) (s1 := 0) (n := 83) d_MO_outFax_80 ca_MO_outFax_186 (at_31 (h := _) hS37) rfl rfl rfl ⟨by decide, by decide⟩ (Nat.le_of_ble_eq_true rfl) (Or.inl rfl) (fx_Mt.mono H fun v h41 hv => ?_)
            obtain ⟨rfl, e42, H⟩ := hv
            have hS41 := e42.trans hS37
            show fx_V l M_MO_outFax (0, 0) Q 0 0 83 [some (.ref 31), some (.int (zI x1)), some (.int (zI x2)), some (.int (zI x3))] [] h41
            refine fx_iinc (v := x3 + 1) (ls2 := [some (.ref 31), some (.int (zI x1)), some (.int (zI x2)), some (.int (zI (x3 + 1)))]) d_MO_outFax_83 rfl rfl (by decide) rfl ?_
            refine fx_goto (n := 2) d_MO_outFax_86 ?_
            exact H
          · replace H := H.2 z40
            refine fx_iload_n (i := 3) d_MO_outFax_64 rfl rfl ?_
            refine fx_iload_n (i := 1) d_MO_outFax_65 rfl rfl ?_
            refine fx_isub d_MO_outFax_66 ?_
            refine fx_iconst d_MO_outFax_67 ?_
            obtain ⟨hn43, H⟩ := H
            refine fx_irem d_MO_outFax_68 hn43 hz34 (show (0 : Int) < 4 by decide) (show zR 4 by decide) ?_
            refine fx_if_ne (t := 79) (n := 72) d_MO_outFax_69 hz35 (fun z44 => ?_) (fun z44 => ?_)
            · replace H := H.1 z44
              refine fx_aload_n (i := 0) d_MO_outFax_79 rfl rfl ?_
              refine fx_callV (M' := M_MO_outBy) (B' := (0, 0)) (vs := []) (rest := []) (c1 := 0) (s1 := 0) (n := 83) d_MO_outFax_80 ca_MO_outFax_186 (at_31 (h := _) hS37) rfl rfl rfl ⟨by decide, by decide⟩ (Nat.le_of_ble_eq_true rfl) (Or.inl rfl) (fx_Mt.mono H fun v h45 hv => ?_)
              obtain ⟨rfl, e46, H⟩ := hv
              have hS45 := e46.trans hS37
              show fx_V l M_MO_outFax (0, 0) Q 0 0 83 [some (.ref 31), some (.int (zI x1)), some (.int (zI x2)), some (.int (zI x3))] [] h45
              refine fx_iinc (v := x3 + 1) (ls2 := [some (.ref 31), some (.int (zI x1)), some (.int (zI x2)), some (.int (zI (x3 + 1)))]) d_MO_outFax_83 rfl rfl (by decide) rfl ?_
              refine fx_goto (n := 2) d_MO_outFax_86 ?_
              exact H
            · replace H := H.2 z44
              refine fx_aload_n (i := 0) d_MO_outFax_72 rfl rfl ?_
              refine fx_callV (M' := M_MO_outItself) (B' := (0, 0)) (vs := []) (rest := []) (c1 := 0) (s1 := 0) (n := 76) d_MO_outFax_73 ca_MO_outFax_183 (at_31 (h := _) hS37) rfl rfl rfl ⟨by decide, by decide⟩ (Nat.le_of_ble_eq_true rfl) (Or.inl rfl) (fx_Mt.mono H fun v h47 hv => ?_)
              obtain ⟨rfl, e48, H⟩ := hv
              have hS47 := e48.trans hS37
              show fx_V l M_MO_outFax (0, 0) Q 0 0 76 [some (.ref 31), some (.int (zI x1)), some (.int (zI x2)), some (.int (zI x3))] [] h47
              refine fx_goto (n := 83) d_MO_outFax_76 ?_
              refine fx_iinc (v := x3 + 1) (ls2 := [some (.ref 31), some (.int (zI x1)), some (.int (zI x2)), some (.int (zI (x3 + 1)))]) d_MO_outFax_83 rfl rfl (by decide) rfl ?_
              refine fx_goto (n := 2) d_MO_outFax_86 ?_
              exact H
        · replace H := H.2 z36
          refine fx_iconst d_MO_outFax_48 ?_
          refine fx_goto (n := 53) d_MO_outFax_49 ?_
          refine fx_callV (M' := M_MO_outBit) (B' := (0, 0)) (vs := [.int (zI 1)]) (rest := []) (c1 := 0) (s1 := 0) (n := 56) d_MO_outFax_53 ca_MO_outFax_121 (at_31 (h := _) hS31) rfl rfl rfl ⟨by decide, by decide⟩ (Nat.le_of_ble_eq_true rfl) (Or.inl rfl) (fx_Mt.mono H fun v h49 hv => ?_)
          obtain ⟨rfl, e50, H⟩ := hv
          have hS49 := e50.trans hS31
          show fx_V l M_MO_outFax (0, 0) Q 0 0 56 [some (.ref 31), some (.int (zI x1)), some (.int (zI x2)), some (.int (zI x3))] [] h49
          refine fx_aload_n (i := 0) d_MO_outFax_56 rfl rfl ?_
          refine fx_getI d_MO_outFax_57 lk_MO_180 (at_31 (h := _) hS49) rfl ?_
          refine fx_iconst d_MO_outFax_60 ?_
          obtain ⟨hz51, H⟩ := H
          refine fx_icmp_ne (t := 79) (n := 64) d_MO_outFax_61 hz51 (show zR 3 by decide) (fun z52 => ?_) (fun z52 => ?_)
          · replace H := H.1 z52
            refine fx_aload_n (i := 0) d_MO_outFax_79 rfl rfl ?_
            refine fx_callV (M' := M_MO_outBy) (B' := (0, 0)) (vs := []) (rest := []) (c1 := 0) (s1 := 0) (n := 83) d_MO_outFax_80 ca_MO_outFax_186 (at_31 (h := _) hS49) rfl rfl rfl ⟨by decide, by decide⟩ (Nat.le_of_ble_eq_true rfl) (Or.inl rfl) (fx_Mt.mono H fun v h53 hv => ?_)
            obtain ⟨rfl, e54, H⟩ := hv
            have hS53 := e54.trans hS49
            show fx_V l M_MO_outFax (0, 0) Q 0 0 83 [some (.ref 31), some (.int (zI x1)), some (.int (zI x2)), some (.int (zI x3))] [] h53
            refine fx_iinc (v := x3 + 1) (ls2 := [some (.ref 31), some (.int (zI x1)), some (.int (zI x2)), some (.int (zI (x3 + 1)))]) d_MO_outFax_83 rfl rfl (by decide) rfl ?_
            refine fx_goto (n := 2) d_MO_outFax_86 ?_
            exact H
          · replace H := H.2 z52
            refine fx_iload_n (i := 3) d_MO_outFax_64 rfl rfl ?_
            refine fx_iload_n (i := 1) d_MO_outFax_65 rfl rfl ?_
            refine fx_isub d_MO_outFax_66 ?_
            refine fx_iconst d_MO_outFax_67 ?_
            obtain ⟨hn55, H⟩ := H
            refine fx_irem d_MO_outFax_68 hn55 hz34 (show (0 : Int) < 4 by decide) (show zR 4 by decide) ?_
            refine fx_if_ne (t := 79) (n := 72) d_MO_outFax_69 hz35 (fun z56 => ?_) (fun z56 => ?_)
            · replace H := H.1 z56
              refine fx_aload_n (i := 0) d_MO_outFax_79 rfl rfl ?_
              refine fx_callV (M' := M_MO_outBy) (B' := (0, 0)) (vs := []) (rest := []) (c1 := 0) (s1 := 0) (n := 83) d_MO_outFax_80 ca_MO_outFax_186 (at_31 (h := _) hS49) rfl rfl rfl ⟨by decide, by decide⟩ (Nat.le_of_ble_eq_true rfl) (Or.inl rfl) (fx_Mt.mono H fun v h57 hv => ?_)
              obtain ⟨rfl, e58, H⟩ := hv
              have hS57 := e58.trans hS49
              show fx_V l M_MO_outFax (0, 0) Q 0 0 83 [some (.ref 31), some (.int (zI x1)), some (.int (zI x2)), some (.int (zI x3))] [] h57
              refine fx_iinc (v := x3 + 1) (ls2 := [some (.ref 31), some (.int (zI x1)), some (.int (zI x2)), some (.int (zI (x3 + 1)))]) d_MO_outFax_83 rfl rfl (by decide) rfl ?_
              refine fx_goto (n := 2) d_MO_outFax_86 ?_
              exact H
            · replace H := H.2 z56
              refine fx_aload_n (i := 0) d_MO_outFax_72 rfl rfl ?_
              refine fx_callV (M' := M_MO_outItself) (B' := (0, 0)) (vs := []) (rest := []) (c1 := 0) (s1 := 0) (n := 76) d_MO_outFax_73 ca_MO_outFax_183 (at_31 (h := _) hS49) rfl rfl rfl ⟨by decide, by decide⟩ (Nat.le_of_ble_eq_true rfl) (Or.inl rfl) (fx_Mt.mono H fun v h59 hv => ?_)
              obtain ⟨rfl, e60, H⟩ := hv
              have hS59 := e60.trans hS49
              show fx_V l M_MO_outFax (0, 0) Q 0 0 76 [some (.ref 31), some (.int (zI x1)), some (.int (zI x2)), some (.int (zI x3))] [] h59
              refine fx_goto (n := 83) d_MO_outFax_76 ?_
              refine fx_iinc (v := x3 + 1) (ls2 := [some (.ref 31), some (.int (zI x1)), some (.int (zI x2)), some (.int (zI (x3 + 1)))]) d_MO_outFax_83 rfl rfl (by decide) rfl ?_
              refine fx_goto (n := 2) d_MO_outFax_86 ?_
              exact H
    · replace H := H.2 z15
      refine fx_iconst d_MO_outFax_16 ?_
      refine fx_goto (n := 21) d_MO_outFax_17 ?_
      refine fx_callV (M' := M_MO_bring) (B' := (0, 0)) (vs := [.int (zI x3), .int (zI 1)]) (rest := []) (c1 := 0) (s1 := 0) (n := 24) d_MO_outFax_21 ca_MO_outFax_176 (at_31 (h := _) hS) rfl rfl rfl ⟨by decide, by decide⟩ (Nat.le_of_ble_eq_true rfl) (Or.inl rfl) (fx_Mt.mono H fun v h61 hv => ?_)
      obtain ⟨rfl, e62, H⟩ := hv
      have hS61 := e62.trans hS
      show fx_V l M_MO_outFax (0, 0) Q 0 0 24 [some (.ref 31), some (.int (zI x1)), some (.int (zI x2)), some (.int (zI x3))] [] h61
      refine fx_aload_n (i := 0) d_MO_outFax_24 rfl rfl ?_
      refine fx_getI d_MO_outFax_25 lk_MO_180 (at_31 (h := _) hS61) rfl ?_
      refine fx_iconst d_MO_outFax_28 ?_
      obtain ⟨hz63, H⟩ := H
      refine fx_icmp_ne (t := 56) (n := 32) d_MO_outFax_29 hz63 (show zR 3 by decide) (fun z64 => ?_) (fun z64 => ?_)
      · replace H := H.1 z64
        refine fx_aload_n (i := 0) d_MO_outFax_56 rfl rfl ?_
        refine fx_getI d_MO_outFax_57 lk_MO_180 (at_31 (h := _) hS61) rfl ?_
        refine fx_iconst d_MO_outFax_60 ?_
        refine fx_icmp_ne (t := 79) (n := 64) d_MO_outFax_61 hz63 (show zR 3 by decide) (fun z65 => ?_) (fun z65 => ?_)
        · replace H := H.1 z65
          refine fx_aload_n (i := 0) d_MO_outFax_79 rfl rfl ?_
          refine fx_callV (M' := M_MO_outBy) (B' := (0, 0)) (vs := []) (rest := []) (c1 := 0) (s1 := 0) (n := 83) d_MO_outFax_80 ca_MO_outFax_186 (at_31 (h := _) hS61) rfl rfl rfl ⟨by decide, by decide⟩ (Nat.le_of_ble_eq_true rfl) (Or.inl rfl) (fx_Mt.mono H fun v h66 hv => ?_)
          obtain ⟨rfl, e67, H⟩ := hv
          have hS66 := e67.trans hS61
          show fx_V l M_MO_outFax (0, 0) Q 0 0 83 [some (.ref 31), some (.int (zI x1)), some (.int (zI x2)), some (.int (zI x3))] [] h66
          refine fx_iinc (v := x3 + 1) (ls2 := [some (.ref 31), some (.int (zI x1)), some (.int (zI x2)), some (.int (zI (x3 + 1)))]) d_MO_outFax_83 rfl rfl (by decide) rfl ?_
          refine fx_goto (n := 2) d_MO_outFax_86 ?_
          exact H
        · replace H := H.2 z65
          refine fx_iload_n (i := 3) d_MO_outFax_64 rfl rfl ?_
          refine fx_iload_n (i := 1) d_MO_outFax_65 rfl rfl ?_
          refine fx_isub d_MO_outFax_66 ?_
          refine fx_iconst d_MO_outFax_67 ?_
          obtain ⟨hn68, H⟩ := H
          obtain ⟨hz69, H⟩ := H
          refine fx_irem d_MO_outFax_68 hn68 hz69 (show (0 : Int) < 4 by decide) (show zR 4 by decide) ?_
          obtain ⟨hz70, H⟩ := H
          refine fx_if_ne (t := 79) (n := 72) d_MO_outFax_69 hz70 (fun z71 => ?_) (fun z71 => ?_)
          · replace H := H.1 z71
            refine fx_aload_n (i := 0) d_MO_outFax_79 rfl rfl ?_
            refine fx_callV (M' := M_MO_outBy) (B' := (0, 0)) (vs := []) (rest := []) (c1 := 0) (s1 := 0) (n := 83) d_MO_outFax_80 ca_MO_outFax_186 (at_31 (h := _) hS61) rfl rfl rfl ⟨by decide, by decide⟩ (Nat.le_of_ble_eq_true rfl) (Or.inl rfl) (fx_Mt.mono H fun v h72 hv => ?_)
            obtain ⟨rfl, e73, H⟩ := hv
            have hS72 := e73.trans hS61
            show fx_V l M_MO_outFax (0, 0) Q 0 0 83 [some (.ref 31), some (.int (zI x1)), some (.int (zI x2)), some (.int (zI x3))] [] h72
            refine fx_iinc (v := x3 + 1) (ls2 := [some (.ref 31), some (.int (zI x1)), some (.int (zI x2)), some (.int (zI (x3 + 1)))]) d_MO_outFax_83 rfl rfl (by decide) rfl ?_
            refine fx_goto (n := 2) d_MO_outFax_86 ?_
            exact H
          · replace H := H.2 z71
            refine fx_aload_n (i := 0) d_MO_outFax_72 rfl rfl ?_
            refine fx_callV (M' := M_MO_outItself) (B' := (0, 0)) (vs := []) (rest := []) (c1 := 0) (s1 := 0) (n := 76) d_MO_outFax_73 ca_MO_outFax_183 (at_31 (h := _) hS61) rfl rfl rfl ⟨by decide, by decide⟩ (Nat.le_of_ble_eq_true rfl) (Or.inl rfl) (fx_Mt.mono H fun v h74 hv => ?_)
            obtain ⟨rfl, e75, H⟩ := hv
            have hS74 := e75.trans hS61
            show fx_V l M_MO_outFax (0, 0) Q 0 0 76 [some (.ref 31), some (.int (zI x1)), some (.int (zI x2)), some (.int (zI x3))] [] h74
            refine fx_goto (n := 83) d_MO_outFax_76 ?_
            refine fx_iinc (v := x3 + 1) (ls2 := [some (.ref 31), some (.int (zI x1)), some (.int (zI x2)), some (.int (zI (x3 + 1)))]) d_MO_outFax_83 rfl rfl (by decide) rfl ?_
            refine fx_goto (n := 2) d_MO_outFax_86 ?_
            exact H
      · replace H := H.2 z64
        refine fx_aload_n (i := 0) d_MO_outFax_32 rfl rfl ?_
        refine fx_iconst d_MO_outFax_33 ?_
        refine fx_bipush (v := 12) d_MO_outFax_34 rfl ?_
        refine fx_callV (M' := M_MO_outBits) (B' := (0, 0)) (vs := [.int (zI 1), .int (zI 12)]) (rest := []) (c1 := 0) (s1 := 0) (n := 39) d_MO_outFax_36 ca_MO_outFax_124 (at_31 (h := _) hS61) rfl rfl rfl ⟨by decide, by decide⟩ (Nat.le_of_ble_eq_true rfl) (Or.inl rfl) (fx_Mt.mono H fun v h76 hv => ?_)
        obtain ⟨rfl, e77, H⟩ := hv
        have hS76 := e77.trans hS61
        show fx_V l M_MO_outFax (0, 0) Q 0 0 39 [some (.ref 31), some (.int (zI x1)), some (.int (zI x2)), some (.int (zI x3))] [] h76
        refine fx_aload_n (i := 0) d_MO_outFax_39 rfl rfl ?_
        refine fx_iload_n (i := 3) d_MO_outFax_40 rfl rfl ?_
        refine fx_iload_n (i := 1) d_MO_outFax_41 rfl rfl ?_
        refine fx_isub d_MO_outFax_42 ?_
        refine fx_iconst d_MO_outFax_43 ?_
        obtain ⟨hn78, H⟩ := H
        obtain ⟨hz79, H⟩ := H
        refine fx_irem d_MO_outFax_44 hn78 hz79 (show (0 : Int) < 4 by decide) (show zR 4 by decide) ?_
        obtain ⟨hz80, H⟩ := H
        refine fx_if_ne (t := 52) (n := 48) d_MO_outFax_45 hz80 (fun z81 => ?_) (fun z81 => ?_)
        · replace H := H.1 z81
          refine fx_iconst d_MO_outFax_52 ?_
          refine fx_callV (M' := M_MO_outBit) (B' := (0, 0)) (vs := [.int (zI 0)]) (rest := []) (c1 := 0) (s1 := 0) (n := 56) d_MO_outFax_53 ca_MO_outFax_121 (at_31 (h := _) hS76) rfl rfl rfl ⟨by decide, by decide⟩ (Nat.le_of_ble_eq_true rfl) (Or.inl rfl) (fx_Mt.mono H fun v h82 hv => ?_)
          obtain ⟨rfl, e83, H⟩ := hv
          have hS82 := e83.trans hS76
          show fx_V l M_MO_outFax (0, 0) Q 0 0 56 [some (.ref 31), some (.int (zI x1)), some (.int (zI x2)), some (.int (zI x3))] [] h82
          refine fx_aload_n (i := 0) d_MO_outFax_56 rfl rfl ?_
          refine fx_getI d_MO_outFax_57 lk_MO_180 (at_31 (h := _) hS82) rfl ?_
          refine fx_iconst d_MO_outFax_60 ?_
          obtain ⟨hz84, H⟩ := H
          refine fx_icmp_ne (t := 79) (n := 64) d_MO_outFax_61 hz84 (show zR 3 by decide) (fun z85 => ?_) (fun z85 => ?_)
          · replace H := H.1 z85
            refine fx_aload_n (i := 0) d_MO_outFax_79 rfl rfl ?_
            refine fx_callV (M' := M_MO_outBy) (B' := (0, 0)) (vs := []) (rest := []) (c1 := 0) (s1 := 0) (n := 83) d_MO_outFax_80 ca_MO_outFax_186 (at_31 (h := _) hS82) rfl rfl rfl ⟨by decide, by decide⟩ (Nat.le_of_ble_eq_true rfl) (Or.inl rfl) (fx_Mt.mono H fun v h86 hv => ?_)
            obtain ⟨rfl, e87, H⟩ := hv
            have hS86 := e87.trans hS82
            show fx_V l M_MO_outFax (0, 0) Q 0 0 83 [some (.ref 31), some (.int (zI x1)), some (.int (zI x2)), some (.int (zI x3))] [] h86
            refine fx_iinc (v := x3 + 1) (ls2 := [some (.ref 31), some (.int (zI x1)), some (.int (zI x2)), some (.int (zI (x3 + 1)))]) d_MO_outFax_83 rfl rfl (by decide) rfl ?_
            refine fx_goto (n := 2) d_MO_outFax_86 ?_
            exact H
          · replace H := H.2 z85
            refine fx_iload_n (i := 3) d_MO_outFax_64 rfl rfl ?_
            refine fx_iload_n (i := 1) d_MO_outFax_65 rfl rfl ?_
            refine fx_isub d_MO_outFax_66 ?_
            refine fx_iconst d_MO_outFax_67 ?_
            obtain ⟨hn88, H⟩ := H
            refine fx_irem d_MO_outFax_68 hn88 hz79 (show (0 : Int) < 4 by decide) (show zR 4 by decide) ?_
            refine fx_if_ne (t := 79) (n := 72) d_MO_outFax_69 hz80 (fun z89 => ?_) (fun z89 => ?_)
            · replace H := H.1 z89
              refine fx_aload_n (i := 0) d_MO_outFax_79 rfl rfl ?_
              refine fx_callV (M' := M_MO_outBy) (B' := (0, 0)) (vs := []) (rest := []) (c1 := 0) (s1 := 0) (n := 83) d_MO_outFax_80 ca_MO_outFax_186 (at_31 (h := _) hS82) rfl rfl rfl ⟨by decide, by decide⟩ (Nat.le_of_ble_eq_true rfl) (Or.inl rfl) (fx_Mt.mono H fun v h90 hv => ?_)
              obtain ⟨rfl, e91, H⟩ := hv
              have hS90 := e91.trans hS82
              show fx_V l M_MO_outFax (0, 0) Q 0 0 83 [some (.ref 31), some (.int (zI x1)), some (.int (zI x2)), some (.int (zI x3))] [] h90
              refine fx_iinc (v := x3 + 1) (ls2 := [some (.ref 31), some (.int (zI x1)), some (.int (zI x2)), some (.int (zI (x3 + 1)))]) d_MO_outFax_83 rfl rfl (by decide) rfl ?_
              refine fx_goto (n := 2) d_MO_outFax_86 ?_
              exact H
            · replace H := H.2 z89
              refine fx_aload_n (i := 0) d_MO_outFax_72 rfl rfl ?_
              refine fx_callV (M' := M_MO_outItself) (B' := (0, 0)) (vs := []) (rest := []) (c1 := 0) (s1 := 0) (n := 76) d_MO_outFax_73 ca_MO_outFax_183 (at_31 (h := _) hS82) rfl rfl rfl ⟨by decide, by decide⟩ (Nat.le_of_ble_eq_true rfl) (Or.inl rfl) (fx_Mt.mono H fun v h92 hv => ?_)
              obtain ⟨rfl, e93, H⟩ := hv
              have hS92 := e93.trans hS82
              show fx_V l M_MO_outFax (0, 0) Q 0 0 76 [some (.ref 31), some (.int (zI x1)), some (.int (zI x2)), some (.int (zI x3))] [] h92
              refine fx_goto (n := 83) d_MO_outFax_76 ?_
              refine fx_iinc (v := x3 + 1) (ls2 := [some (.ref 31), some (.int (zI x1)), some (.int (zI x2)), some (.int (zI (x3 + 1)))]) d_MO_outFax_83 rfl rfl (by decide) rfl ?_
              refine fx_goto (n := 2) d_MO_outFax_86 ?_
              exact H
        · replace H := H.2 z81
          refine fx_iconst d_MO_outFax_48 ?_
          refine fx_goto (n := 53) d_MO_outFax_49 ?_
          refine fx_callV (M' := M_MO_outBit) (B' := (0, 0)) (vs := [.int (zI 1)]) (rest := []) (c1 := 0) (s1 := 0) (n := 56) d_MO_outFax_53 ca_MO_outFax_121 (at_31 (h := _) hS76) rfl rfl rfl ⟨by decide, by decide⟩ (Nat.le_of_ble_eq_true rfl) (Or.inl rfl) (fx_Mt.mono H fun v h94 hv => ?_)
          obtain ⟨rfl, e95, H⟩ := hv
          have hS94 := e95.trans hS76
          show fx_V l M_MO_outFax (0, 0) Q 0 0 56 [some (.ref 31), some (.int (zI x1)), some (.int (zI x2)), some (.int (zI x3))] [] h94
          refine fx_aload_n (i := 0) d_MO_outFax_56 rfl rfl ?_
          refine fx_getI d_MO_outFax_57 lk_MO_180 (at_31 (h := _) hS94) rfl ?_
          refine fx_iconst d_MO_outFax_60 ?_
          obtain ⟨hz96, H⟩ := H
          refine fx_icmp_ne (t := 79) (n := 64) d_MO_outFax_61 hz96 (show zR 3 by decide) (fun z97 => ?_) (fun z97 => ?_)
          · replace H := H.1 z97
            refine fx_aload_n (i := 0) d_MO_outFax_79 rfl rfl ?_
            refine fx_callV (M' := M_MO_outBy) (B' := (0, 0)) (vs := []) (rest := []) (c1 := 0) (s1 := 0) (n := 83) d_MO_outFax_80 ca_MO_outFax_186 (at_31 (h := _) hS94) rfl rfl rfl ⟨by decide, by decide⟩ (Nat.le_of_ble_eq_true rfl) (Or.inl rfl) (fx_Mt.mono H fun v h98 hv => ?_)
            obtain ⟨rfl, e99, H⟩ := hv
            have hS98 := e99.trans hS94
            show fx_V l M_MO_outFax (0, 0) Q 0 0 83 [some (.ref 31), some (.int (zI x1)), some (.int (zI x2)), some (.int (zI x3))] [] h98
            refine fx_iinc (v := x3 + 1) (ls2 := [some (.ref 31), some (.int (zI x1)), some (.int (zI x2)), some (.int (zI (x3 + 1)))]) d_MO_outFax_83 rfl rfl (by decide) rfl ?_
            refine fx_goto (n := 2) d_MO_outFax_86 ?_
            exact H
          · replace H := H.2 z97
            refine fx_iload_n (i := 3) d_MO_outFax_64 rfl rfl ?_
            refine fx_iload_n (i := 1) d_MO_outFax_65 rfl rfl ?_
            refine fx_isub d_MO_outFax_66 ?_
            refine fx_iconst d_MO_outFax_67 ?_
            obtain ⟨hn100, H⟩ := H
            refine fx_irem d_MO_outFax_68 hn100 hz79 (show (0 : Int) < 4 by decide) (show zR 4 by decide) ?_
            refine fx_if_ne (t := 79) (n := 72) d_MO_outFax_69 hz80 (fun z101 => ?_) (fun z101 => ?_)
            · replace H := H.1 z101
              refine fx_aload_n (i := 0) d_MO_outFax_79 rfl rfl ?_
              refine fx_callV (M' := M_MO_outBy) (B' := (0, 0)) (vs := []) (rest := []) (c1 := 0) (s1 := 0) (n := 83) d_MO_outFax_80 ca_MO_outFax_186 (at_31 (h := _) hS94) rfl rfl rfl ⟨by decide, by decide⟩ (Nat.le_of_ble_eq_true rfl) (Or.inl rfl) (fx_Mt.mono H fun v h102 hv => ?_)
              obtain ⟨rfl, e103, H⟩ := hv
              have hS102 := e103.trans hS94
              show fx_V l M_MO_outFax (0, 0) Q 0 0 83 [some (.ref 31), some (.int (zI x1)), some (.int (zI x2)), some (.int (zI x3))] [] h102
              refine fx_iinc (v := x3 + 1) (ls2 := [some (.ref 31), some (.int (zI x1)), some (.int (zI x2)), some (.int (zI (x3 + 1)))]) d_MO_outFax_83 rfl rfl (by decide) rfl ?_
              refine fx_goto (n := 2) d_MO_outFax_86 ?_
              exact H
            · replace H := H.2 z101
              refine fx_aload_n (i := 0) d_MO_outFax_72 rfl rfl ?_
              refine fx_callV (M' := M_MO_outItself) (B' := (0, 0)) (vs := []) (rest := []) (c1 := 0) (s1 := 0) (n := 76) d_MO_outFax_73 ca_MO_outFax_183 (at_31 (h := _) hS94) rfl rfl rfl ⟨by decide, by decide⟩ (Nat.le_of_ble_eq_true rfl) (Or.inl rfl) (fx_Mt.mono H fun v h104 hv => ?_)
              obtain ⟨rfl, e105, H⟩ := hv
              have hS104 := e105.trans hS94
              show fx_V l M_MO_outFax (0, 0) Q 0 0 76 [some (.ref 31), some (.int (zI x1)), some (.int (zI x2)), some (.int (zI x3))] [] h104
              refine fx_goto (n := 83) d_MO_outFax_76 ?_
              refine fx_iinc (v := x3 + 1) (ls2 := [some (.ref 31), some (.int (zI x1)), some (.int (zI x2)), some (.int (zI (x3 + 1)))]) d_MO_outFax_83 rfl rfl (by decide) rfl ?_
              refine fx_goto (n := 2) d_MO_outFax_86 ?_
              exact H

set_option maxRecDepth 100000 in
set_option maxHeartbeats 4000000 in
theorem e_MO_bring {l : Launch} {Q : Option Value → fx_H → Prop} {h : fx_H}  {x : Int} {y : Int}  {a : Nat → Nat} {pp dd : Nat} (hS : h.1 = fx_S0 a pp dd) 
    (H : (fx_V l M_MO_bring (0, 0) Q 0 0 2 [some (.ref 31), some (.int (zI x)), some (.int (zI y)), some (.int (zI 0))] [] h)) :
    fx_Mt l M_MO_bring (0, 0) [.ref 31, .int (zI x), .int (zI y)] h Q := by
  refine fx_entry (ls := [some (.ref 31), some (.int (zI x)), some (.int (zI y)), none]) (by decide) (Nat.le_of_ble_eq_true rfl) rfl ?_
  refine fx_iconst d_MO_bring_0 ?_
  refine fx_istore_n (i := 3) (ls2 := [some (.ref 31), some (.int (zI x)), some (.int (zI y)), some (.int (zI 0))]) d_MO_bring_1 rfl (by decide) rfl ?_
  exact H

set_option maxRecDepth 100000 in
set_option maxHeartbeats 4000000 in
theorem w_MO_bring_2 {l : Launch} {Q : Option Value → fx_H → Prop} {h : fx_H}  {x1 : Int} {x2 : Int} {x3 : Int}  {a : Nat → Nat} {pp dd : Nat} (hS : h.1 = fx_S0 a pp dd) 
    (H : zR x3 ∧ zR (h.2.1 31 15) ∧ (((h.2.1 31 15) ≤ x3 → Q none h) ∧ (¬ ((h.2.1 31 15) ≤ x3) → zR x2 ∧ ((x2 = 0 → 0 ≤ x3 ∧ x3 < 40 ∧ 0 ≤ x3 ∧ x3 < 40 ∧ 0 ≤ (((h.2.1 31 15) * x1) + x3) ∧ (((h.2.1 31 15) * x1) + x3) < 960 ∧ 0 ≤ x3 ∧ x3 < 40 ∧ (fx_V l M_MO_bring (0, 0) Q 0 0 2 [some (.ref 31), some (.int (zI x1)), some (.int (zI x2)), some (.int (zI (x3 + 1)))] [] (fx_uA (fx_uA h 37 (x3.toNat) (h.2.2.1 36 (x3.toNat))) 36 (x3.toNat) (h.2.2.1 32 ((((h.2.1 31 15) * x1) + x3).toNat))))) ∧ (¬ (x2 = 0) → 0 ≤ x3 ∧ x3 < 40 ∧ 0 ≤ (((h.2.1 31 15) * x1) + x3) ∧ (((h.2.1 31 15) * x1) + x3) < 960 ∧ 0 ≤ x3 ∧ x3 < 40 ∧ (fx_V l M_MO_bring (0, 0) Q 0 0 2 [some (.ref 31), some (.int (zI x1)), some (.int (zI x2)), some (.int (zI (x3 + 1)))] [] (fx_uA (fx_uA h 37 (x3.toNat) 0) 36 (x3.toNat) (h.2.2.1 32 ((((h.2.1 31 15) * x1) + x3).toNat))))))))) :
    fx_V l M_MO_bring (0, 0) Q 0 0 2 [some (.ref 31), some (.int (zI x1)), some (.int (zI x2)), some (.int (zI x3))] [] h := by
  refine fx_iload_n (i := 3) d_MO_bring_2 rfl rfl ?_
  refine fx_aload_n (i := 0) d_MO_bring_3 rfl rfl ?_
  refine fx_getI d_MO_bring_4 lk_MO_131 (at_31 (h := _) hS) rfl ?_
  obtain ⟨hz1, H⟩ := H
  obtain ⟨hz2, H⟩ := H
  refine fx_icmp_ge (t := 55) (n := 10) d_MO_bring_7 hz1 hz2 (fun z3 => ?_) (fun z3 => ?_)
  · replace H := H.1 z3
    exact fx_end none ⟨rfl, d_MO_bring_55⟩ (Nat.le_refl _) (Nat.le_refl _) rfl H
  · replace H := H.2 z3
    refine fx_aload_n (i := 0) d_MO_bring_10 rfl rfl ?_
    refine fx_getR (q := 37) d_MO_bring_11 lk_MO_44 (at_31 (h := _) hS) rfl rfl ?_
    refine fx_iload_n (i := 3) d_MO_bring_14 rfl rfl ?_
    refine fx_iload_n (i := 2) d_MO_bring_15 rfl rfl ?_
    obtain ⟨hz4, H⟩ := H
    refine fx_if_eq (t := 23) (n := 19) d_MO_bring_16 hz4 (fun z5 => ?_) (fun z5 => ?_)
    · replace H := H.1 z5
      refine fx_aload_n (i := 0) d_MO_bring_23 rfl rfl ?_
      refine fx_getR (q := 36) d_MO_bring_24 lk_MO_41 (at_31 (h := _) hS) rfl rfl ?_
      refine fx_iload_n (i := 3) d_MO_bring_27 rfl rfl ?_
      obtain ⟨hn6, H⟩ := H
      obtain ⟨hn7, H⟩ := H
      refine fx_iald d_MO_bring_28 (at_36 (h := _) hS) hn6 hn7 (by decide) ?_
      obtain ⟨hn8, H⟩ := H
      obtain ⟨hn9, H⟩ := H
      refine fx_iast d_MO_bring_29 (at_37 (h := _) hS) hn8 hn9 (by decide) ?_
      refine fx_aload_n (i := 0) d_MO_bring_30 rfl rfl ?_
      refine fx_getR (q := 36) d_MO_bring_31 lk_MO_41 (at_31 (h := _) hS) rfl rfl ?_
      refine fx_iload_n (i := 3) d_MO_bring_34 rfl rfl ?_
      refine fx_aload_n (i := 0) d_MO_bring_35 rfl rfl ?_
      refine fx_getR (q := 32) d_MO_bring_36 lk_MO_16 (at_31 (h := _) hS) rfl rfl ?_
      refine fx_aload_n (i := 0) d_MO_bring_39 rfl rfl ?_
      refine fx_getI d_MO_bring_40 lk_MO_131 (at_31 (h := _) hS) rfl ?_
      refine fx_iload_n (i := 1) d_MO_bring_43 rfl rfl ?_
      refine fx_imul d_MO_bring_44 ?_
      refine fx_iload_n (i := 3) d_MO_bring_45 rfl rfl ?_
      refine fx_iadd d_MO_bring_46 ?_
      obtain ⟨hn10, H⟩ := H
      obtain ⟨hn11, H⟩ := H
      refine fx_iald d_MO_bring_47 (at_32 (h := _) hS) hn10 hn11 (by decide) ?_
      obtain ⟨hn12, H⟩ := H
      obtain ⟨hn13, H⟩ := H
      refine fx_iast d_MO_bring_48 (at_36 (h := _) hS) hn12 hn13 (by decide) ?_
      refine fx_iinc (v := x3 + 1) (ls2 := [some (.ref 31), some (.int (zI x1)), some (.int (zI x2)), some (.int (zI (x3 + 1)))]) d_MO_bring_49 rfl rfl (by decide) rfl ?_
      refine fx_goto (n := 2) d_MO_bring_52 ?_
      exact H
    · replace H := H.2 z5
      refine fx_iconst d_MO_bring_19 ?_
      refine fx_goto (n := 29) d_MO_bring_20 ?_
      obtain ⟨hn14, H⟩ := H
      obtain ⟨hn15, H⟩ := H
      refine fx_iast d_MO_bring_29 (at_37 (h := _) hS) hn14 hn15 (by decide) ?_
      refine fx_aload_n (i := 0) d_MO_bring_30 rfl rfl ?_
      refine fx_getR (q := 36) d_MO_bring_31 lk_MO_41 (at_31 (h := _) hS) rfl rfl ?_
      refine fx_iload_n (i := 3) d_MO_bring_34 rfl rfl ?_
      refine fx_aload_n (i := 0) d_MO_bring_35 rfl rfl ?_
      refine fx_getR (q := 32) d_MO_bring_36 lk_MO_16 (at_31 (h := _) hS) rfl rfl ?_
      refine fx_aload_n (i := 0) d_MO_bring_39 rfl rfl ?_
      refine fx_getI d_MO_bring_40 lk_MO_131 (at_31 (h := _) hS) rfl ?_
      refine fx_iload_n (i := 1) d_MO_bring_43 rfl rfl ?_
      refine fx_imul d_MO_bring_44 ?_
      refine fx_iload_n (i := 3) d_MO_bring_45 rfl rfl ?_
      refine fx_iadd d_MO_bring_46 ?_
      obtain ⟨hn16, H⟩ := H
      obtain ⟨hn17, H⟩ := H
      refine fx_iald d_MO_bring_47 (at_32 (h := _) hS) hn16 hn17 (by decide) ?_
      obtain ⟨hn18, H⟩ := H
      obtain ⟨hn19, H⟩ := H
      refine fx_iast d_MO_bring_48 (at_36 (h := _) hS) hn18 hn19 (by decide) ?_
      refine fx_iinc (v := x3 + 1) (ls2 := [some (.ref 31), some (.int (zI x1)), some (.int (zI x2)), some (.int (zI (x3 + 1)))]) d_MO_bring_49 rfl rfl (by decide) rfl ?_
      refine fx_goto (n := 2) d_MO_bring_52 ?_
      exact H

set_option maxRecDepth 100000 in
set_option maxHeartbeats 4000000 in
theorem e_MO_outItself {l : Launch} {Q : Option Value → fx_H → Prop} {h : fx_H}    {a : Nat → Nat} {pp dd : Nat} (hS : h.1 = fx_S0 a pp dd) 
    (H : (fx_V l M_MO_outItself (0, 0) Q 0 0 4 [some (.ref 31), some (.int (zI 0)), some (.int (zI 0)), none] [] h)) :
    fx_Mt l M_MO_outItself (0, 0) [.ref 31] h Q := by
  refine fx_entry (ls := [some (.ref 31), none, none, none]) (by decide) (Nat.le_of_ble_eq_true rfl) rfl ?_
  refine fx_iconst d_MO_outItself_0 ?_
  refine fx_istore_n (i := 1) (ls2 := [some (.ref 31), some (.int (zI 0)), none, none]) d_MO_outItself_1 rfl (by decide) rfl ?_
  refine fx_iconst d_MO_outItself_2 ?_
  refine fx_istore_n (i := 2) (ls2 := [some (.ref 31), some (.int (zI 0)), some (.int (zI 0)), none]) d_MO_outItself_3 rfl (by decide) rfl ?_
  exact H

set_option maxRecDepth 100000 in
set_option maxHeartbeats 4000000 in
theorem w_MO_outItself_4 {l : Launch} {Q : Option Value → fx_H → Prop} {h : fx_H}  {x1 : Int} {x2 : Int}  {a : Nat → Nat} {pp dd : Nat} (hS : h.1 = fx_S0 a pp dd) 
    (H : zR x1 ∧ zR (h.2.1 31 15) ∧ (((h.2.1 31 15) ≤ x1 → Q none h) ∧ (¬ ((h.2.1 31 15) ≤ x1) → (fx_V l M_MO_outItself (0, 0) Q 0 0 14 [some (.ref 31), some (.int (zI x1)), some (.int (zI x2)), some (.int (zI x1))] [] h)))) :
    fx_V l M_MO_outItself (0, 0) Q 0 0 4 [some (.ref 31), some (.int (zI x1)), some (.int (zI x2)), none] [] h := by
  refine fx_iload_n (i := 1) d_MO_outItself_4 rfl rfl ?_
  refine fx_aload_n (i := 0) d_MO_outItself_5 rfl rfl ?_
  refine fx_getI d_MO_outItself_6 lk_MO_131 (at_31 (h := _) hS) rfl ?_
  obtain ⟨hz1, H⟩ := H
  obtain ⟨hz2, H⟩ := H
  refine fx_icmp_ge (t := 55) (n := 12) d_MO_outItself_9 hz1 hz2 (fun z3 => ?_) (fun z3 => ?_)
  · replace H := H.1 z3
    exact fx_end none ⟨rfl, d_MO_outItself_55⟩ (Nat.le_refl _) (Nat.le_refl _) rfl H
  · replace H := H.2 z3
    refine fx_iload_n (i := 1) d_MO_outItself_12 rfl rfl ?_
    refine fx_istore_n (i := 3) (ls2 := [some (.ref 31), some (.int (zI x1)), some (.int (zI x2)), some (.int (zI x1))]) d_MO_outItself_13 rfl (by decide) rfl ?_
    exact H

set_option maxRecDepth 100000 in
set_option maxHeartbeats 4000000 in
theorem w_MO_outItself_14 {l : Launch} {Q : Option Value → fx_H → Prop} {h : fx_H}  {x1 : Int} {x2 : Int} {x3 : Int}  {a : Nat → Nat} {pp dd : Nat} (hS : h.1 = fx_S0 a pp dd) 
    (H : zR x3 ∧ zR (h.2.1 31 15) ∧ (((h.2.1 31 15) ≤ x3 → fx_Mt l M_MO_outRun (0, 0) [.ref 31, .int (zI x2), .int (zI (x3 - x1))] h (fun v h4 => v = none ∧ h4.1 = h.1 ∧ (fx_V l M_MO_outItself (0, 0) Q 0 0 4 [some (.ref 31), some (.int (zI x3)), some (.int (zI (1 - x2))), none] [] h4))) ∧ (¬ ((h.2.1 31 15) ≤ x3) → 0 ≤ x3 ∧ x3 < 40 ∧ zR (h.2.2.1 36 (x3.toNat)) ∧ zR x2 ∧ ((¬ (h.2.2.1 36 (x3.toNat)) = x2 → fx_Mt l M_MO_outRun (0, 0) [.ref 31, .int (zI x2), .int (zI (x3 - x1))] h (fun v h11 => v = none ∧ h11.1 = h.1 ∧ (fx_V l M_MO_outItself (0, 0) Q 0 0 4 [some (.ref 31), some (.int (zI x3)), some (.int (zI (1 - x2))), none] [] h11))) ∧ ((h.2.2.1 36 (x3.toNat)) = x2 → (fx_V l M_MO_outItself (0, 0) Q 0 0 14 [some (.ref 31), some (.int (zI x1)), some (.int (zI x2)), some (.int (zI (x3 + 1)))] [] h)))))) :
    fx_V l M_MO_outItself (0, 0) Q 0 0 14 [some (.ref 31), some (.int (zI x1)), some (.int (zI x2)), some (.int (zI x3))] [] h := by
  refine fx_iload_n (i := 3) d_MO_outItself_14 rfl rfl ?_
  refine fx_aload_n (i := 0) d_MO_outItself_15 rfl rfl ?_
  refine fx_getI d_MO_outItself_16 lk_MO_131 (at_31 (h := _) hS) rfl ?_
  obtain ⟨hz1, H⟩ := H
  obtain ⟨hz2, H⟩ := H
  refine fx_icmp_ge (t := 38) (n := 22) d_MO_outItself_19 hz1 hz2 (fun z3 => ?_) (fun z3 => ?_)
  · replace H := H.1 z3
    refine fx_aload_n (i := 0) d_MO_outItself_38 rfl rfl ?_
    refine fx_iload_n (i := 2) d_MO_outItself_39 rfl rfl ?_
    refine fx_iload_n (i := 3) d_MO_outItself_40 rfl rfl ?_
    refine fx_iload_n (i := 1) d_MO_outItself_41 rfl rfl ?_
    refine fx_isub d_MO_outItself_42 ?_
    refine fx_callV (M' := M_MO_outRun) (B' := (0, 0)) (vs := [.int (zI x2), .int (zI (x3 - x1))]) (rest := []) (c1 := 0) (s1 := 0) (n := 46) d_MO_outItself_43 ca_MO_outItself_158 (at_31 (h := _) hS) rfl rfl rfl ⟨by decide, by decide⟩ (Nat.le_of_ble_eq_true rfl) (Or.inl rfl) (fx_Mt.mono H fun v h4 hv => ?_)
    obtain ⟨rfl, e5, H⟩ := hv
    have hS4 := e5.trans hS
    show fx_V l M_MO_outItself (0, 0) Q 0 0 46 [some (.ref 31), some (.int (zI x1)), some (.int (zI x2)), some (.int (zI x3))] [] h4
    refine fx_iload_n (i := 3) d_MO_outItself_46 rfl rfl ?_
    refine fx_istore_n (i := 1) (ls2 := [some (.ref 31), some (.int (zI x3)), some (.int (zI x2)), some (.int (zI x3))]) d_MO_outItself_47 rfl (by decide) rfl ?_
    refine fx_iconst d_MO_outItself_48 ?_
    refine fx_iload_n (i := 2) d_MO_outItself_49 rfl rfl ?_
    refine fx_isub d_MO_outItself_50 ?_
    refine fx_istore_n (i := 2) (ls2 := [some (.ref 31), some (.int (zI x3)), some (.int (zI (1 - x2))), some (.int (zI x3))]) d_MO_outItself_51 rfl (by decide) rfl ?_
    refine fx_goto (n := 4) d_MO_outItself_52 ?_
    exact fx_fewer [some (.ref 31), some (.int (zI x3)), some (.int (zI (1 - x2))), none] ⟨rfl, rfl, rfl, trivial⟩ H
  · replace H := H.2 z3
    refine fx_aload_n (i := 0) d_MO_outItself_22 rfl rfl ?_
    refine fx_getR (q := 36) d_MO_outItself_23 lk_MO_41 (at_31 (h := _) hS) rfl rfl ?_
    refine fx_iload_n (i := 3) d_MO_outItself_26 rfl rfl ?_
    obtain ⟨hn6, H⟩ := H
    obtain ⟨hn7, H⟩ := H
    refine fx_iald d_MO_outItself_27 (at_36 (h := _) hS) hn6 hn7 (by decide) ?_
    refine fx_iload_n (i := 2) d_MO_outItself_28 rfl rfl ?_
    obtain ⟨hz8, H⟩ := H
    obtain ⟨hz9, H⟩ := H
    refine fx_icmp_ne (t := 38) (n := 32) d_MO_outItself_29 hz8 hz9 (fun z10 => ?_) (fun z10 => ?_)
    · replace H := H.1 z10
      refine fx_aload_n (i := 0) d_MO_outItself_38 rfl rfl ?_
      refine fx_iload_n (i := 2) d_MO_outItself_39 rfl rfl ?_
      refine fx_iload_n (i := 3) d_MO_outItself_40 rfl rfl ?_
      refine fx_iload_n (i := 1) d_MO_outItself_41 rfl rfl ?_
      refine fx_isub d_MO_outItself_42 ?_
      refine fx_callV (M' := M_MO_outRun) (B' := (0, 0)) (vs := [.int (zI x2), .int (zI (x3 - x1))]) (rest := []) (c1 := 0) (s1 := 0) (n := 46) d_MO_outItself_43 ca_MO_outItself_158 (at_31 (h := _) hS) rfl rfl rfl ⟨by decide, by decide⟩ (Nat.le_of_ble_eq_true rfl) (Or.inl rfl) (fx_Mt.mono H fun v h11 hv => ?_)
      obtain ⟨rfl, e12, H⟩ := hv
      have hS11 := e12.trans hS
      show fx_V l M_MO_outItself (0, 0) Q 0 0 46 [some (.ref 31), some (.int (zI x1)), some (.int (zI x2)), some (.int (zI x3))] [] h11
      refine fx_iload_n (i := 3) d_MO_outItself_46 rfl rfl ?_
      refine fx_istore_n (i := 1) (ls2 := [some (.ref 31), some (.int (zI x3)), some (.int (zI x2)), some (.int (zI x3))]) d_MO_outItself_47 rfl (by decide) rfl ?_
      refine fx_iconst d_MO_outItself_48 ?_
      refine fx_iload_n (i := 2) d_MO_outItself_49 rfl rfl ?_
      refine fx_isub d_MO_outItself_50 ?_
      refine fx_istore_n (i := 2) (ls2 := [some (.ref 31), some (.int (zI x3)), some (.int (zI (1 - x2))), some (.int (zI x3))]) d_MO_outItself_51 rfl (by decide) rfl ?_
      refine fx_goto (n := 4) d_MO_outItself_52 ?_
      exact fx_fewer [some (.ref 31), some (.int (zI x3)), some (.int (zI (1 - x2))), none] ⟨rfl, rfl, rfl, trivial⟩ H
    · replace H := H.2 z10
      refine fx_iinc (v := x3 + 1) (ls2 := [some (.ref 31), some (.int (zI x1)), some (.int (zI x2)), some (.int (zI (x3 + 1)))]) d_MO_outItself_32 rfl rfl (by decide) rfl ?_
      refine fx_goto (n := 14) d_MO_outItself_35 ?_
      exact H

set_option maxRecDepth 100000 in
set_option maxHeartbeats 4000000 in
theorem e_MO_outRun {l : Launch} {Q : Option Value → fx_H → Prop} {h : fx_H}  {x : Int} {y : Int}  {a : Nat → Nat} {pp dd : Nat} (hS : h.1 = fx_S0 a pp dd) 
    (H : 0 ≤ ((41 * x) + y) ∧ ((41 * x) + y) < 84 ∧ (fx_V l M_MO_outRun (0, 0) Q 0 0 15 [some (.ref 31), none, none, some (.int (zI (h.2.2.1 35 (((41 * x) + y).toNat)))), some (.int (zI 0))] [] h)) :
    fx_Mt l M_MO_outRun (0, 0) [.ref 31, .int (zI x), .int (zI y)] h Q := by
  refine fx_entry (ls := [some (.ref 31), some (.int (zI x)), some (.int (zI y)), none, none]) (by decide) (Nat.le_of_ble_eq_true rfl) rfl ?_
  refine fx_aload_n (i := 0) d_MO_outRun_0 rfl rfl ?_
  refine fx_getR (q := 35) d_MO_outRun_1 lk_MO_38 (at_31 (h := _) hS) rfl rfl ?_
  refine fx_bipush (v := 41) d_MO_outRun_4 rfl ?_
  refine fx_iload_n (i := 1) d_MO_outRun_6 rfl rfl ?_
  refine fx_imul d_MO_outRun_7 ?_
  refine fx_iload_n (i := 2) d_MO_outRun_8 rfl rfl ?_
  refine fx_iadd d_MO_outRun_9 ?_
  obtain ⟨hn1, H⟩ := H
  obtain ⟨hn2, H⟩ := H
  refine fx_iald d_MO_outRun_10 (at_35 (h := _) hS) hn1 hn2 (by decide) ?_
  refine fx_istore_n (i := 3) (ls2 := [some (.ref 31), some (.int (zI x)), some (.int (zI y)), some (.int (zI (h.2.2.1 35 (((41 * x) + y).toNat)))), none]) d_MO_outRun_11 rfl (by decide) rfl ?_
  refine fx_iconst d_MO_outRun_12 ?_
  refine fx_istore (ls2 := [some (.ref 31), some (.int (zI x)), some (.int (zI y)), some (.int (zI (h.2.2.1 35 (((41 * x) + y).toNat)))), some (.int (zI 0))]) d_MO_outRun_13 (by decide) rfl ?_
  exact fx_fewer [some (.ref 31), none, none, some (.int (zI (h.2.2.1 35 (((41 * x) + y).toNat)))), some (.int (zI 0))] ⟨rfl, rfl, rfl, trivial⟩ H

set_option maxRecDepth 100000 in
set_option maxHeartbeats 4000000 in
theorem w_MO_outRun_15 {l : Launch} {Q : Option Value → fx_H → Prop} {h : fx_H}  {x3 : Int} {x4 : Int}  {a : Nat → Nat} {pp dd : Nat} (hS : h.1 = fx_S0 a pp dd) 
    (H : (0 ≤ x4 ∧ x4 < 32) ∧ zR x3 ∧ zR (x3 / 2 ^ x4.toNat) ∧ (((x3 / 2 ^ x4.toNat) ≤ 1 → fx_Mt l M_MO_outBits (0, 0) [.ref 31, .int (zI x3), .int (zI x4)] h (fun v h6 => v = none ∧ h6.1 = h.1 ∧ Q none h6)) ∧ (¬ ((x3 / 2 ^ x4.toNat) ≤ 1) → (fx_V l M_MO_outRun (0, 0) Q 0 0 15 [some (.ref 31), none, none, some (.int (zI x3)), some (.int (zI (x4 + 1)))] [] h)))) :
    fx_V l M_MO_outRun (0, 0) Q 0 0 15 [some (.ref 31), none, none, some (.int (zI x3)), some (.int (zI x4))] [] h := by
  refine fx_iload_n (i := 3) d_MO_outRun_15 rfl rfl ?_
  refine fx_iload d_MO_outRun_16 rfl ?_
  obtain ⟨hn1, H⟩ := H
  have ez2 : ((x4.toNat : Nat) : Int) = x4 := Int.toNat_of_nonneg hn1.1
  refine fx_eqv (st2 := [(.int (zI ((x4.toNat : Nat) : Int))), .int (zI x3)]) (by rw [ez2]) ?_
  obtain ⟨hz3, H⟩ := H
  refine fx_ishr (j := x4.toNat) d_MO_outRun_18 hz3 (by omega) ?_
  refine fx_iconst d_MO_outRun_19 ?_
  obtain ⟨hz4, H⟩ := H
  refine fx_icmp_le (t := 29) (n := 23) d_MO_outRun_20 hz4 (show zR 1 by decide) (fun z5 => ?_) (fun z5 => ?_)
  · replace H := H.1 z5
    refine fx_aload_n (i := 0) d_MO_outRun_29 rfl rfl ?_
    refine fx_iload_n (i := 3) d_MO_outRun_30 rfl rfl ?_
    refine fx_iload d_MO_outRun_31 rfl ?_
    refine fx_callV (M' := M_MO_outBits) (B' := (0, 0)) (vs := [.int (zI x3), .int (zI x4)]) (rest := []) (c1 := 0) (s1 := 0) (n := 36) d_MO_outRun_33 ca_MO_outRun_124 (at_31 (h := _) hS) rfl rfl rfl ⟨by decide, by decide⟩ (Nat.le_of_ble_eq_true rfl) (Or.inl rfl) (fx_Mt.mono H fun v h6 hv => ?_)
    obtain ⟨rfl, e7, H⟩ := hv
    have hS6 := e7.trans hS
    show fx_V l M_MO_outRun (0, 0) Q 0 0 36 [some (.ref 31), none, none, some (.int (zI x3)), some (.int (zI x4))] [] h6
    exact fx_end none ⟨rfl, d_MO_outRun_36⟩ (Nat.le_refl _) (Nat.le_refl _) rfl H
  · replace H := H.2 z5
    refine fx_iinc (v := x4 + 1) (ls2 := [some (.ref 31), none, none, some (.int (zI x3)), some (.int (zI (x4 + 1)))]) d_MO_outRun_23 rfl rfl (by decide) rfl ?_
    refine fx_goto (n := 15) d_MO_outRun_26 ?_
    exact H

set_option maxRecDepth 100000 in
set_option maxHeartbeats 4000000 in
theorem e_MO_outBy {l : Launch} {Q : Option Value → fx_H → Prop} {h : fx_H}    {a : Nat → Nat} {pp dd : Nat} (hS : h.1 = fx_S0 a pp dd) 
    (H : (fx_V l M_MO_outBy (0, 0) Q 0 0 4 [some (.ref 31), some (.int (zI (-1))), some (.int (zI 0)), none, none, none, none, none] [] h)) :
    fx_Mt l M_MO_outBy (0, 0) [.ref 31] h Q := by
  refine fx_entry (ls := [some (.ref 31), none, none, none, none, none, none, none]) (by decide) (Nat.le_of_ble_eq_true rfl) rfl ?_
  refine fx_iconst d_MO_outBy_0 ?_
  refine fx_istore_n (i := 1) (ls2 := [some (.ref 31), some (.int (zI (-1))), none, none, none, none, none, none]) d_MO_outBy_1 rfl (by decide) rfl ?_
  refine fx_iconst d_MO_outBy_2 ?_
  refine fx_istore_n (i := 2) (ls2 := [some (.ref 31), some (.int (zI (-1))), some (.int (zI 0)), none, none, none, none, none]) d_MO_outBy_3 rfl (by decide) rfl ?_
  exact H

set_option maxRecDepth 100000 in
set_option maxHeartbeats 4000000 in
theorem w_MO_outBy_4 {l : Launch} {Q : Option Value → fx_H → Prop} {h : fx_H}  {x1 : Int} {x2 : Int}  {a : Nat → Nat} {pp dd : Nat} (hS : h.1 = fx_S0 a pp dd) 
    (H : zR x1 ∧ zR (h.2.1 31 15) ∧ (((h.2.1 31 15) ≤ x1 → Q none h) ∧ (¬ ((h.2.1 31 15) ≤ x1) → fx_Mt l M_MO_firstNot (0, 0) [.ref 31, .int (zI x1), .int (zI x2)] h (fun v h4 => ∃ r6 : Int, v = some (.int (zI r6)) ∧ h4.1 = h.1 ∧ fx_Mt l M_MO_changeAbove (0, 0) [.ref 31, .int (zI x1), .int (zI x2)] h4 (fun v h7 => ∃ r9 : Int, v = some (.int (zI r9)) ∧ h7.1 = h4.1 ∧ fx_Mt l M_MO_changeBack (0, 0) [.ref 31, .int (zI r9), .int (zI x2)] h7 (fun v h10 => ∃ r12 : Int, v = some (.int (zI r12)) ∧ h10.1 = h7.1 ∧ zR r12 ∧ zR r6 ∧ ((r6 ≤ r12 → zR (r9 - 3) ∧ ((r6 < (r9 - 3) → fx_Mt l M_MO_firstAgain (0, 0) [.ref 31, .int (zI r6), .int (zI x2)] h10 (fun v h18 => ∃ r20 : Int, v = some (.int (zI r20)) ∧ h18.1 = h10.1 ∧ fx_Mt l M_MO_outBits (0, 0) [.ref 31, .int (zI 1), .int (zI 3)] h18 (fun v h21 => v = none ∧ h21.1 = h18.1 ∧ ((0 ≤ x1 → fx_Mt l M_MO_outRun (0, 0) [.ref 31, .int (zI x2), .int (zI (r6 - x1))] h21 (fun v h24 => v = none ∧ h24.1 = h21.1 ∧ fx_Mt l M_MO_outRun (0, 0) [.ref 31, .int (zI (1 - x2)), .int (zI (r20 - r6))] h24 (fun v h26 => v = none ∧ h26.1 = h24.1 ∧ (fx_V l M_MO_outBy (0, 0) Q 0 0 4 [some (.ref 31), some (.int (zI r20)), some (.int (zI x2)), none, none, none, none, none] [] h26)))) ∧ (¬ (0 ≤ x1) → fx_Mt l M_MO_outRun (0, 0) [.ref 31, .int (zI x2), .int (zI (r6 - 0))] h21 (fun v h28 => v = none ∧ h28.1 = h21.1 ∧ fx_Mt l M_MO_outRun (0, 0) [.ref 31, .int (zI (1 - x2)), .int (zI (r20 - r6))] h28 (fun v h30 => v = none ∧ h30.1 = h28.1 ∧ (fx_V l M_MO_outBy (0, 0) Q 0 0 4 [some (.ref 31), some (.int (zI r20)), some (.int (zI x2)), none, none, none, none, none] [] h30)))))))) ∧ (¬ (r6 < (r9 - 3)) → zR (r9 + 3) ∧ (((r9 + 3) < r6 → fx_Mt l M_MO_firstAgain (0, 0) [.ref 31, .int (zI r6), .int (zI x2)] h10 (fun v h34 => ∃ r36 : Int, v = some (.int (zI r36)) ∧ h34.1 = h10.1 ∧ fx_Mt l M_MO_outBits (0, 0) [.ref 31, .int (zI 1), .int (zI 3)] h34 (fun v h37 => v = none ∧ h37.1 = h34.1 ∧ ((0 ≤ x1 → fx_Mt l M_MO_outRun (0, 0) [.ref 31, .int (zI x2), .int (zI (r6 - x1))] h37 (fun v h40 => v = none ∧ h40.1 = h37.1 ∧ fx_Mt l M_MO_outRun (0, 0) [.ref 31, .int (zI (1 - x2)), .int (zI (r36 - r6))] h40 (fun v h42 => v = none ∧ h42.1 = h40.1 ∧ (fx_V l M_MO_outBy (0, 0) Q 0 0 4 [some (.ref 31), some (.int (zI r36)), some (.int (zI x2)), none, none, none, none, none] [] h42)))) ∧ (¬ (0 ≤ x1) → fx_Mt l M_MO_outRun (0, 0) [.ref 31, .int (zI x2), .int (zI (r6 - 0))] h37 (fun v h44 => v = none ∧ h44.1 = h37.1 ∧ fx_Mt l M_MO_outRun (0, 0) [.ref 31, .int (zI (1 - x2)), .int (zI (r36 - r6))] h44 (fun v h46 => v = none ∧ h46.1 = h44.1 ∧ (fx_V l M_MO_outBy (0, 0) Q 0 0 4 [some (.ref 31), some (.int (zI r36)), some (.int (zI x2)), none, none, none, none, none] [] h46)))))))) ∧ (¬ ((r9 + 3) < r6) → fx_Mt l M_MO_near (0, 0) [.int (zI (r6 - r9))] h10 (fun v h48 => ∃ r50 : Int, v = some (.int (zI r50)) ∧ h48.1 = h10.1 ∧ (fx_V l M_MO_outBy (0, 0) Q 0 0 82 [some (.ref 31), none, some (.int (zI x2)), some (.int (zI r6)), none, none, some (.int (zI r50)), some (.int (zI 0))] [] h48))))))) ∧ (¬ (r6 ≤ r12) → fx_Mt l M_MO_outBits (0, 0) [.ref 31, .int (zI 1), .int (zI 4)] h10 (fun v h51 => v = none ∧ h51.1 = h10.1 ∧ (fx_V l M_MO_outBy (0, 0) Q 0 0 4 [some (.ref 31), some (.int (zI r12)), some (.int (zI x2)), none, none, none, none, none] [] h51)))))))))) :
    fx_V l M_MO_outBy (0, 0) Q 0 0 4 [some (.ref 31), some (.int (zI x1)), some (.int (zI x2)), none, none, none, none, none] [] h := by
  refine fx_iload_n (i := 1) d_MO_outBy_4 rfl rfl ?_
  refine fx_aload_n (i := 0) d_MO_outBy_5 rfl rfl ?_
  refine fx_getI d_MO_outBy_6 lk_MO_131 (at_31 (h := _) hS) rfl ?_
  obtain ⟨hz1, H⟩ := H
  obtain ⟨hz2, H⟩ := H
  refine fx_icmp_ge (t := 161) (n := 12) d_MO_outBy_9 hz1 hz2 (fun z3 => ?_) (fun z3 => ?_)
  · replace H := H.1 z3
    exact fx_end none ⟨rfl, d_MO_outBy_161⟩ (Nat.le_refl _) (Nat.le_refl _) rfl H
  · replace H := H.2 z3
    refine fx_aload_n (i := 0) d_MO_outBy_12 rfl rfl ?_
    refine fx_iload_n (i := 1) d_MO_outBy_13 rfl rfl ?_
    refine fx_iload_n (i := 2) d_MO_outBy_14 rfl rfl ?_
    refine fx_callV (M' := M_MO_firstNot) (B' := (0, 0)) (vs := [.int (zI x1), .int (zI x2)]) (rest := []) (c1 := 0) (s1 := 0) (n := 18) d_MO_outBy_15 ca_MO_outBy_161 (at_31 (h := _) hS) rfl rfl rfl ⟨by decide, by decide⟩ (Nat.le_of_ble_eq_true rfl) (Or.inl rfl) (fx_Mt.mono H fun v h4 hv => ?_)
    obtain ⟨r6, rfl, e5, H⟩ := hv
    have hS4 := e5.trans hS
    show fx_V l M_MO_outBy (0, 0) Q 0 0 18 [some (.ref 31), some (.int (zI x1)), some (.int (zI x2)), none, none, none, none, none] [.int (zI r6)] h4
    refine fx_istore_n (i := 3) (ls2 := [some (.ref 31), some (.int (zI x1)), some (.int (zI x2)), some (.int (zI r6)), none, none, none, none]) d_MO_outBy_18 rfl (by decide) rfl ?_
    refine fx_aload_n (i := 0) d_MO_outBy_19 rfl rfl ?_
    refine fx_iload_n (i := 1) d_MO_outBy_20 rfl rfl ?_
    refine fx_iload_n (i := 2) d_MO_outBy_21 rfl rfl ?_
    refine fx_callV (M' := M_MO_changeAbove) (B' := (0, 0)) (vs := [.int (zI x1), .int (zI x2)]) (rest := []) (c1 := 0) (s1 := 0) (n := 25) d_MO_outBy_22 ca_MO_outBy_164 (at_31 (h := _) hS4) rfl rfl rfl ⟨by decide, by decide⟩ (Nat.le_of_ble_eq_true rfl) (Or.inl rfl) (fx_Mt.mono H fun v h7 hv => ?_)
    obtain ⟨r9, rfl, e8, H⟩ := hv
    have hS7 := e8.trans hS4
    show fx_V l M_MO_outBy (0, 0) Q 0 0 25 [some (.ref 31), some (.int (zI x1)), some (.int (zI x2)), some (.int (zI r6)), none, none, none, none] [.int (zI r9)] h7
    refine fx_istore (ls2 := [some (.ref 31), some (.int (zI x1)), some (.int (zI x2)), some (.int (zI r6)), some (.int (zI r9)), none, none, none]) d_MO_outBy_25 (by decide) rfl ?_
    refine fx_aload_n (i := 0) d_MO_outBy_27 rfl rfl ?_
    refine fx_iload d_MO_outBy_28 rfl ?_
    refine fx_iload_n (i := 2) d_MO_outBy_30 rfl rfl ?_
    refine fx_callV (M' := M_MO_changeBack) (B' := (0, 0)) (vs := [.int (zI r9), .int (zI x2)]) (rest := []) (c1 := 0) (s1 := 0) (n := 34) d_MO_outBy_31 ca_MO_outBy_167 (at_31 (h := _) hS7) rfl rfl rfl ⟨by decide, by decide⟩ (Nat.le_of_ble_eq_true rfl) (Or.inl rfl) (fx_Mt.mono H fun v h10 hv => ?_)
    obtain ⟨r12, rfl, e11, H⟩ := hv
    have hS10 := e11.trans hS7
    show fx_V l M_MO_outBy (0, 0) Q 0 0 34 [some (.ref 31), some (.int (zI x1)), some (.int (zI x2)), some (.int (zI r6)), some (.int (zI r9)), none, none, none] [.int (zI r12)] h10
    refine fx_istore (ls2 := [some (.ref 31), some (.int (zI x1)), some (.int (zI x2)), some (.int (zI r6)), some (.int (zI r9)), some (.int (zI r12)), none, none]) d_MO_outBy_34 (by decide) rfl ?_
    refine fx_iload d_MO_outBy_36 rfl ?_
    refine fx_iload_n (i := 3) d_MO_outBy_38 rfl rfl ?_
    obtain ⟨hz13, H⟩ := H
    obtain ⟨hz14, H⟩ := H
    refine fx_icmp_ge (t := 54) (n := 42) d_MO_outBy_39 hz13 hz14 (fun z15 => ?_) (fun z15 => ?_)
    · replace H := H.1 z15
      refine fx_iload_n (i := 3) d_MO_outBy_54 rfl rfl ?_
      refine fx_iload d_MO_outBy_55 rfl ?_
      refine fx_iconst d_MO_outBy_57 ?_
      refine fx_isub d_MO_outBy_58 ?_
      obtain ⟨hz16, H⟩ := H
      refine fx_icmp_lt (t := 114) (n := 62) d_MO_outBy_59 hz14 hz16 (fun z17 => ?_) (fun z17 => ?_)
      · replace H := H.1 z17
        refine fx_aload_n (i := 0) d_MO_outBy_114 rfl rfl ?_
        refine fx_iload_n (i := 3) d_MO_outBy_115 rfl rfl ?_
        refine fx_iload_n (i := 2) d_MO_outBy_116 rfl rfl ?_
        refine fx_callV (M' := M_MO_firstAgain) (B' := (0, 0)) (vs := [.int (zI r6), .int (zI x2)]) (rest := []) (c1 := 0) (s1 := 0) (n := 120) d_MO_outBy_117 ca_MO_outBy_173 (at_31 (h := _) hS10) rfl rfl rfl ⟨by decide, by decide⟩ (Nat.le_of_ble_eq_true rfl) (Or.inl rfl) (fx_Mt.mono H fun v h18 hv => ?_)
        obtain ⟨r20, rfl, e19, H⟩ := hv
        have hS18 := e19.trans hS10
        show fx_V l M_MO_outBy (0, 0) Q 0 0 120 [some (.ref 31), some (.int (zI x1)), some (.int (zI x2)), some (.int (zI r6)), some (.int (zI r9)), some (.int (zI r12)), none, none] [.int (zI r20)] h18
        refine fx_istore (ls2 := [some (.ref 31), some (.int (zI x1)), some (.int (zI x2)), some (.int (zI r6)), some (.int (zI r9)), some (.int (zI r12)), some (.int (zI r20)), none]) d_MO_outBy_120 (by decide) rfl ?_
        refine fx_aload_n (i := 0) d_MO_outBy_122 rfl rfl ?_
        refine fx_iconst d_MO_outBy_123 ?_
        refine fx_iconst d_MO_outBy_124 ?_
        refine fx_callV (M' := M_MO_outBits) (B' := (0, 0)) (vs := [.int (zI 1), .int (zI 3)]) (rest := []) (c1 := 0) (s1 := 0) (n := 128) d_MO_outBy_125 ca_MO_outBy_124 (at_31 (h := _) hS18) rfl rfl rfl ⟨by decide, by decide⟩ (Nat.le_of_ble_eq_true rfl) (Or.inl rfl) (fx_Mt.mono H fun v h21 hv => ?_)
        obtain ⟨rfl, e22, H⟩ := hv
        have hS21 := e22.trans hS18
        show fx_V l M_MO_outBy (0, 0) Q 0 0 128 [some (.ref 31), some (.int (zI x1)), some (.int (zI x2)), some (.int (zI r6)), some (.int (zI r9)), some (.int (zI r12)), some (.int (zI r20)), none] [] h21
        refine fx_aload_n (i := 0) d_MO_outBy_128 rfl rfl ?_
        refine fx_iload_n (i := 2) d_MO_outBy_129 rfl rfl ?_
        refine fx_iload_n (i := 3) d_MO_outBy_130 rfl rfl ?_
        refine fx_iload_n (i := 1) d_MO_outBy_131 rfl rfl ?_
        refine fx_if_ge (t := 139) (n := 135) d_MO_outBy_132 hz1 (fun z23 => ?_) (fun z23 => ?_)
        · replace H := H.1 z23
          refine fx_iload_n (i := 1) d_MO_outBy_139 rfl rfl ?_
          refine fx_isub d_MO_outBy_140 ?_
          refine fx_callV (M' := M_MO_outRun) (B' := (0, 0)) (vs := [.int (zI x2), .int (zI (r6 - x1))]) (rest := []) (c1 := 0) (s1 := 0) (n := 144) d_MO_outBy_141 ca_MO_outBy_158 (at_31 (h := _) hS21) rfl rfl rfl ⟨by decide, by decide⟩ (Nat.le_of_ble_eq_true rfl) (Or.inl rfl) (fx_Mt.mono H fun v h24 hv => ?_)
          obtain ⟨rfl, e25, H⟩ := hv
          have hS24 := e25.trans hS21
          show fx_V l M_MO_outBy (0, 0) Q 0 0 144 [some (.ref 31), some (.int (zI x1)), some (.int (zI x2)), some (.int (zI r6)), some (.int (zI r9)), some (.int (zI r12)), some (.int (zI r20)), none] [] h24
          refine fx_aload_n (i := 0) d_MO_outBy_144 rfl rfl ?_
          refine fx_iconst d_MO_outBy_145 ?_
          refine fx_iload_n (i := 2) d_MO_outBy_146 rfl rfl ?_
          refine fx_isub d_MO_outBy_147 ?_
          refine fx_iload d_MO_outBy_148 rfl ?_
          refine fx_iload_n (i := 3) d_MO_outBy_150 rfl rfl ?_
          refine fx_isub d_MO_outBy_151 ?_
          refine fx_callV (M' := M_MO_outRun) (B' := (0, 0)) (vs := [.int (zI (1 - x2)), .int (zI (r20 - r6))]) (rest := []) (c1 := 0) (s1 := 0) (n := 155) d_MO_outBy_152 ca_MO_outBy_158 (at_31 (h := _) hS24) rfl rfl rfl ⟨by decide, by decide⟩ (Nat.le_of_ble_eq_true rfl) (Or.inl rfl) (fx_Mt.mono H fun v h26 hv => ?_)
          obtain ⟨rfl, e27, H⟩ := hv
          have hS26 := e27.trans hS24
          show fx_V l M_MO_outBy (0, 0) Q 0 0 155 [some (.ref 31), some (.int (zI x1)), some (.int (zI x2)), some (.int (zI r6)), some (.int (zI r9)), some (.int (zI r12)), some (.int (zI r20)), none] [] h26
          refine fx_iload d_MO_outBy_155 rfl ?_
          refine fx_istore_n (i := 1) (ls2 := [some (.ref 31), some (.int (zI r20)), some (.int (zI x2)), some (.int (zI r6)), some (.int (zI r9)), some (.int (zI r12)), some (.int (zI r20)), none]) d_MO_outBy_157 rfl (by decide) rfl ?_
          refine fx_goto (n := 4) d_MO_outBy_158 ?_
          exact fx_fewer [some (.ref 31), some (.int (zI r20)), some (.int (zI x2)), none, none, none, none, none] ⟨rfl, rfl, rfl, trivial⟩ H
        · replace H := H.2 z23
          refine fx_iconst d_MO_outBy_135 ?_
          refine fx_goto (n := 140) d_MO_outBy_136 ?_
          refine fx_isub d_MO_outBy_140 ?_
          refine fx_callV (M' := M_MO_outRun) (B' := (0, 0)) (vs := [.int (zI x2), .int (zI (r6 - 0))]) (rest := []) (c1 := 0) (s1 := 0) (n := 144) d_MO_outBy_141 ca_MO_outBy_158 (at_31 (h := _) hS21) rfl rfl rfl ⟨by decide, by decide⟩ (Nat.le_of_ble_eq_true rfl) (Or.inl rfl) (fx_Mt.mono H fun v h28 hv => ?_)
          obtain ⟨rfl, e29, H⟩ := hv
          have hS28 := e29.trans hS21
          show fx_V l M_MO_outBy (0, 0) Q 0 0 144 [some (.ref 31), some (.int (zI x1)), some (.int (zI x2)), some (.int (zI r6)), some (.int (zI r9)), some (.int (zI r12)), some (.int (zI r20)), none] [] h28
          refine fx_aload_n (i := 0) d_MO_outBy_144 rfl rfl ?_
          refine fx_iconst d_MO_outBy_145 ?_
          refine fx_iload_n (i := 2) d_MO_outBy_146 rfl rfl ?_
          refine fx_isub d_MO_outBy_147 ?_
          refine fx_iload d_MO_outBy_148 rfl ?_
          refine fx_iload_n (i := 3) d_MO_outBy_150 rfl rfl ?_
          refine fx_isub d_MO_outBy_151 ?_
          refine fx_callV (M' := M_MO_outRun) (B' := (0, 0)) (vs := [.int (zI (1 - x2)), .int (zI (r20 - r6))]) (rest := []) (c1 := 0) (s1 := 0) (n := 155) d_MO_outBy_152 ca_MO_outBy_158 (at_31 (h := _) hS28) rfl rfl rfl ⟨by decide, by decide⟩ (Nat.le_of_ble_eq_true rfl) (Or.inl rfl) (fx_Mt.mono H fun v h30 hv => ?_)
          obtain ⟨rfl, e31, H⟩ := hv
          have hS30 := e31.trans hS28
          show fx_V l M_MO_outBy (0, 0) Q 0 0 155 [some (.ref 31), some (.int (zI x1)), some (.int (zI x2)), some (.int (zI r6)), some (.int (zI r9)), some (.int (zI r12)), some (.int (zI r20)), none] [] h30
          refine fx_iload d_MO_outBy_155 rfl ?_
          refine fx_istore_n (i := 1) (ls2 := [some (.ref 31), some (.int (zI r20)), some (.int (zI x2)), some (.int (zI r6)), some (.int (zI r9)), some (.int (zI r12)), some (.int (zI r20)), none]) d_MO_outBy_157 rfl (by decide) rfl ?_
          refine fx_goto (n := 4) d_MO_outBy_158 ?_
          exact fx_fewer [some (.ref 31), some (.int (zI r20)), some (.int (zI x2)), none, none, none, none, none] ⟨rfl, rfl, rfl, trivial⟩ H
      · replace H := H.2 z17
        refine fx_iload_n (i := 3) d_MO_outBy_62 rfl rfl ?_
        refine fx_iload d_MO_outBy_63 rfl ?_
        refine fx_iconst d_MO_outBy_65 ?_
        refine fx_iadd d_MO_outBy_66 ?_
        obtain ⟨hz32, H⟩ := H
        refine fx_icmp_gt (t := 114) (n := 70) d_MO_outBy_67 hz14 hz32 (fun z33 => ?_) (fun z33 => ?_)
        · replace H := H.1 z33
          refine fx_aload_n (i := 0) d_MO_outBy_114 rfl rfl ?_
          refine fx_iload_n (i := 3) d_MO_outBy_115 rfl rfl ?_
          refine fx_iload_n (i := 2) d_MO_outBy_116 rfl rfl ?_
          refine fx_callV (M' := M_MO_firstAgain) (B' := (0, 0)) (vs := [.int (zI r6), .int (zI x2)]) (rest := []) (c1 := 0) (s1 := 0) (n := 120) d_MO_outBy_117 ca_MO_outBy_173 (at_31 (h := _) hS10) rfl rfl rfl ⟨by decide, by decide⟩ (Nat.le_of_ble_eq_true rfl) (Or.inl rfl) (fx_Mt.mono H fun v h34 hv => ?_)
          obtain ⟨r36, rfl, e35, H⟩ := hv
          have hS34 := e35.trans hS10
          show fx_V l M_MO_outBy (0, 0) Q 0 0 120 [some (.ref 31), some (.int (zI x1)), some (.int (zI x2)), some (.int (zI r6)), some (.int (zI r9)), some (.int (zI r12)), none, none] [.int (zI r36)] h34
          refine fx_istore (ls2 := [some (.ref 31), some (.int (zI x1)), some (.int (zI x2)), some (.int (zI r6)), some (.int (zI r9)), some (.int (zI r12)), some (.int (zI r36)), none]) d_MO_outBy_120 (by decide) rfl ?_
          refine fx_aload_n (i := 0) d_MO_outBy_122 rfl rfl ?_
          refine fx_iconst d_MO_outBy_123 ?_
          refine fx_iconst d_MO_outBy_124 ?_
          refine fx_callV (M' := M_MO_outBits) (B' := (0, 0)) (vs := [.int (zI 1), .int (zI 3)]) (rest := []) (c1 := 0) (s1 := 0) (n := 128) d_MO_outBy_125 ca_MO_outBy_124 (at_31 (h := _) hS34) rfl rfl rfl ⟨by decide, by decide⟩ (Nat.le_of_ble_eq_true rfl) (Or.inl rfl) (fx_Mt.mono H fun v h37 hv => ?_)
          obtain ⟨rfl, e38, H⟩ := hv
          have hS37 := e38.trans hS34
          show fx_V l M_MO_outBy (0, 0) Q 0 0 128 [some (.ref 31), some (.int (zI x1)), some (.int (zI x2)), some (.int (zI r6)), some (.int (zI r9)), some (.int (zI r12)), some (.int (zI r36)), none] [] h37
          refine fx_aload_n (i := 0) d_MO_outBy_128 rfl rfl ?_
          refine fx_iload_n (i := 2) d_MO_outBy_129 rfl rfl ?_
          refine fx_iload_n (i := 3) d_MO_outBy_130 rfl rfl ?_
          refine fx_iload_n (i := 1) d_MO_outBy_131 rfl rfl ?_
          refine fx_if_ge (t := 139) (n := 135) d_MO_outBy_132 hz1 (fun z39 => ?_) (fun z39 => ?_)
          · replace H := H.1 z39
            refine fx_iload_n (i := 1) d_MO_outBy_139 rfl rfl ?_
            refine fx_isub d_MO_outBy_140 ?_
            refine fx_callV (M' := M_MO_outRun) (B' := (0, 0)) (vs := [.int (zI x2), .int (zI (r6 - x1))]) (rest := []) (c1 := 0) (s1 := 0) (n := 144) d_MO_outBy_141 ca_MO_outBy_158 (at_31 (h := _) hS37) rfl rfl rfl ⟨by decide, by decide⟩ (Nat.le_of_ble_eq_true rfl) (Or.inl rfl) (fx_Mt.mono H fun v h40 hv => ?_)
            obtain ⟨rfl, e41, H⟩ := hv
            have hS40 := e41.trans hS37
            show fx_V l M_MO_outBy (0, 0) Q 0 0 144 [some (.ref 31), some (.int (zI x1)), some (.int (zI x2)), some (.int (zI r6)), some (.int (zI r9)), some (.int (zI r12)), some (.int (zI r36)), none] [] h40
            refine fx_aload_n (i := 0) d_MO_outBy_144 rfl rfl ?_
            refine fx_iconst d_MO_outBy_145 ?_
            refine fx_iload_n (i := 2) d_MO_outBy_146 rfl rfl ?_
            refine fx_isub d_MO_outBy_147 ?_
            refine fx_iload d_MO_outBy_148 rfl ?_
            refine fx_iload_n (i := 3) d_MO_outBy_150 rfl rfl ?_
            refine fx_isub d_MO_outBy_151 ?_
            refine fx_callV (M' := M_MO_outRun) (B' := (0, 0)) (vs := [.int (zI (1 - x2)), .int (zI (r36 - r6))]) (rest := []) (c1 := 0) (s1 := 0) (n := 155) d_MO_outBy_152 ca_MO_outBy_158 (at_31 (h := _) hS40) rfl rfl rfl ⟨by decide, by decide⟩ (Nat.le_of_ble_eq_true rfl) (Or.inl rfl) (fx_Mt.mono H fun v h42 hv => ?_)
            obtain ⟨rfl, e43, H⟩ := hv
            have hS42 := e43.trans hS40
            show fx_V l M_MO_outBy (0, 0) Q 0 0 155 [some (.ref 31), some (.int (zI x1)), some (.int (zI x2)), some (.int (zI r6)), some (.int (zI r9)), some (.int (zI r12)), some (.int (zI r36)), none] [] h42
            refine fx_iload d_MO_outBy_155 rfl ?_
            refine fx_istore_n (i := 1) (ls2 := [some (.ref 31), some (.int (zI r36)), some (.int (zI x2)), some (.int (zI r6)), some (.int (zI r9)), some (.int (zI r12)), some (.int (zI r36)), none]) d_MO_outBy_157 rfl (by decide) rfl ?_
            refine fx_goto (n := 4) d_MO_outBy_158 ?_
            exact fx_fewer [some (.ref 31), some (.int (zI r36)), some (.int (zI x2)), none, none, none, none, none] ⟨rfl, rfl, rfl, trivial⟩ H
          · replace H := H.2 z39
            refine fx_iconst d_MO_outBy_135 ?_
            refine fx_goto (n := 140) d_MO_outBy_136 ?_
            refine fx_isub d_MO_outBy_140 ?_
            refine fx_callV (M' := M_MO_outRun) (B' := (0, 0)) (vs := [.int (zI x2), .int (zI (r6 - 0))]) (rest := []) (c1 := 0) (s1 := 0) (n := 144) d_MO_outBy_141 ca_MO_outBy_158 (at_31 (h := _) hS37) rfl rfl rfl ⟨by decide, by decide⟩ (Nat.le_of_ble_eq_true rfl) (Or.inl rfl) (fx_Mt.mono H fun v h44 hv => ?_)
            obtain ⟨rfl, e45, H⟩ := hv
            have hS44 := e45.trans hS37
            show fx_V l M_MO_outBy (0, 0) Q 0 0 144 [some (.ref 31), some (.int (zI x1)), some (.int (zI x2)), some (.int (zI r6)), some (.int (zI r9)), some (.int (zI r12)), some (.int (zI r36)), none] [] h44
            refine fx_aload_n (i := 0) d_MO_outBy_144 rfl rfl ?_
            refine fx_iconst d_MO_outBy_145 ?_
            refine fx_iload_n (i := 2) d_MO_outBy_146 rfl rfl ?_
            refine fx_isub d_MO_outBy_147 ?_
            refine fx_iload d_MO_outBy_148 rfl ?_
            refine fx_iload_n (i := 3) d_MO_outBy_150 rfl rfl ?_
            refine fx_isub d_MO_outBy_151 ?_
            refine fx_callV (M' := M_MO_outRun) (B' := (0, 0)) (vs := [.int (zI (1 - x2)), .int (zI (r36 - r6))]) (rest := []) (c1 := 0) (s1 := 0) (n := 155) d_MO_outBy_152 ca_MO_outBy_158 (at_31 (h := _) hS44) rfl rfl rfl ⟨by decide, by decide⟩ (Nat.le_of_ble_eq_true rfl) (Or.inl rfl) (fx_Mt.mono H fun v h46 hv => ?_)
            obtain ⟨rfl, e47, H⟩ := hv
            have hS46 := e47.trans hS44
            show fx_V l M_MO_outBy (0, 0) Q 0 0 155 [some (.ref 31), some (.int (zI x1)), some (.int (zI x2)), some (.int (zI r6)), some (.int (zI r9)), some (.int (zI r12)), some (.int (zI r36)), none] [] h46
            refine fx_iload d_MO_outBy_155 rfl ?_
            refine fx_istore_n (i := 1) (ls2 := [some (.ref 31), some (.int (zI r36)), some (.int (zI x2)), some (.int (zI r6)), some (.int (zI r9)), some (.int (zI r12)), some (.int (zI r36)), none]) d_MO_outBy_157 rfl (by decide) rfl ?_
            refine fx_goto (n := 4) d_MO_outBy_158 ?_
            exact fx_fewer [some (.ref 31), some (.int (zI r36)), some (.int (zI x2)), none, none, none, none, none] ⟨rfl, rfl, rfl, trivial⟩ H
        · replace H := H.2 z33
          refine fx_iload_n (i := 3) d_MO_outBy_70 rfl rfl ?_
          refine fx_iload d_MO_outBy_71 rfl ?_
          refine fx_isub d_MO_outBy_73 ?_
          refine fx_callS (M' := M_MO_near) (B' := (0, 0)) (vs := [.int (zI (r6 - r9))]) (rest := []) (c1 := 0) (s1 := 0) (n := 77) d_MO_outBy_74 ca_MO_outBy_170 rfl rfl ⟨by decide, by decide⟩ (Nat.le_of_ble_eq_true rfl) (Or.inl rfl) (fx_Mt.mono H fun v h48 hv => ?_)
          obtain ⟨r50, rfl, e49, H⟩ := hv
          have hS48 := e49.trans hS10
          show fx_V l M_MO_outBy (0, 0) Q 0 0 77 [some (.ref 31), some (.int (zI x1)), some (.int (zI x2)), some (.int (zI r6)), some (.int (zI r9)), some (.int (zI r12)), none, none] [.int (zI r50)] h48
          refine fx_istore (ls2 := [some (.ref 31), some (.int (zI x1)), some (.int (zI x2)), some (.int (zI r6)), some (.int (zI r9)), some (.int (zI r12)), some (.int (zI r50)), none]) d_MO_outBy_77 (by decide) rfl ?_
          refine fx_iconst d_MO_outBy_79 ?_
          refine fx_istore (ls2 := [some (.ref 31), some (.int (zI x1)), some (.int (zI x2)), some (.int (zI r6)), some (.int (zI r9)), some (.int (zI r12)), some (.int (zI r50)), some (.int (zI 0))]) d_MO_outBy_80 (by decide) rfl ?_
          exact fx_fewer [some (.ref 31), none, some (.int (zI x2)), some (.int (zI r6)), none, none, some (.int (zI r50)), some (.int (zI 0))] ⟨rfl, rfl, rfl, rfl, rfl, trivial⟩ H
    · replace H := H.2 z15
      refine fx_aload_n (i := 0) d_MO_outBy_42 rfl rfl ?_
      refine fx_iconst d_MO_outBy_43 ?_
      refine fx_iconst d_MO_outBy_44 ?_
      refine fx_callV (M' := M_MO_outBits) (B' := (0, 0)) (vs := [.int (zI 1), .int (zI 4)]) (rest := []) (c1 := 0) (s1 := 0) (n := 48) d_MO_outBy_45 ca_MO_outBy_124 (at_31 (h := _) hS10) rfl rfl rfl ⟨by decide, by decide⟩ (Nat.le_of_ble_eq_true rfl) (Or.inl rfl) (fx_Mt.mono H fun v h51 hv => ?_)
      obtain ⟨rfl, e52, H⟩ := hv
      have hS51 := e52.trans hS10
      show fx_V l M_MO_outBy (0, 0) Q 0 0 48 [some (.ref 31), some (.int (zI x1)), some (.int (zI x2)), some (.int (zI r6)), some (.int (zI r9)), some (.int (zI r12)), none, none] [] h51
      refine fx_iload d_MO_outBy_48 rfl ?_
      refine fx_istore_n (i := 1) (ls2 := [some (.ref 31), some (.int (zI r12)), some (.int (zI x2)), some (.int (zI r6)), some (.int (zI r9)), some (.int (zI r12)), none, none]) d_MO_outBy_50 rfl (by decide) rfl ?_
      refine fx_goto (n := 158) d_MO_outBy_51 ?_
      refine fx_goto (n := 4) d_MO_outBy_158 ?_
      exact fx_fewer [some (.ref 31), some (.int (zI r12)), some (.int (zI x2)), none, none, none, none, none] ⟨rfl, rfl, rfl, trivial⟩ H

set_option maxRecDepth 100000 in
set_option maxHeartbeats 4000000 in
theorem w_MO_outBy_82 {l : Launch} {Q : Option Value → fx_H → Prop} {h : fx_H}  {x2 : Int} {x3 : Int} {x6 : Int} {x7 : Int}  {a : Nat → Nat} {pp dd : Nat} (hS : h.1 = fx_S0 a pp dd) 
    (H : (0 ≤ x7 ∧ x7 < 32) ∧ zR x6 ∧ zR (x6 / 2 ^ x7.toNat) ∧ (((x6 / 2 ^ x7.toNat) ≤ 1 → fx_Mt l M_MO_outBits (0, 0) [.ref 31, .int (zI x6), .int (zI x7)] h (fun v h6 => v = none ∧ h6.1 = h.1 ∧ (fx_V l M_MO_outBy (0, 0) Q 0 0 4 [some (.ref 31), some (.int (zI x3)), some (.int (zI (1 - x2))), none, none, none, none, none] [] h6))) ∧ (¬ ((x6 / 2 ^ x7.toNat) ≤ 1) → (fx_V l M_MO_outBy (0, 0) Q 0 0 82 [some (.ref 31), none, some (.int (zI x2)), some (.int (zI x3)), none, none, some (.int (zI x6)), some (.int (zI (x7 + 1)))] [] h)))) :
    fx_V l M_MO_outBy (0, 0) Q 0 0 82 [some (.ref 31), none, some (.int (zI x2)), some (.int (zI x3)), none, none, some (.int (zI x6)), some (.int (zI x7))] [] h := by
  refine fx_iload d_MO_outBy_82 rfl ?_
  refine fx_iload d_MO_outBy_84 rfl ?_
  obtain ⟨hn1, H⟩ := H
  have ez2 : ((x7.toNat : Nat) : Int) = x7 := Int.toNat_of_nonneg hn1.1
  refine fx_eqv (st2 := [(.int (zI ((x7.toNat : Nat) : Int))), .int (zI x6)]) (by rw [ez2]) ?_
  obtain ⟨hz3, H⟩ := H
  refine fx_ishr (j := x7.toNat) d_MO_outBy_86 hz3 (by omega) ?_
  refine fx_iconst d_MO_outBy_87 ?_
  obtain ⟨hz4, H⟩ := H
  refine fx_icmp_le (t := 97) (n := 91) d_MO_outBy_88 hz4 (show zR 1 by decide) (fun z5 => ?_) (fun z5 => ?_)
  · replace H := H.1 z5
    refine fx_aload_n (i := 0) d_MO_outBy_97 rfl rfl ?_
    refine fx_iload d_MO_outBy_98 rfl ?_
    refine fx_iload d_MO_outBy_100 rfl ?_
    refine fx_callV (M' := M_MO_outBits) (B' := (0, 0)) (vs := [.int (zI x6), .int (zI x7)]) (rest := []) (c1 := 0) (s1 := 0) (n := 105) d_MO_outBy_102 ca_MO_outBy_124 (at_31 (h := _) hS) rfl rfl rfl ⟨by decide, by decide⟩ (Nat.le_of_ble_eq_true rfl) (Or.inl rfl) (fx_Mt.mono H fun v h6 hv => ?_)
    obtain ⟨rfl, e7, H⟩ := hv
    have hS6 := e7.trans hS
    show fx_V l M_MO_outBy (0, 0) Q 0 0 105 [some (.ref 31), none, some (.int (zI x2)), some (.int (zI x3)), none, none, some (.int (zI x6)), some (.int (zI x7))] [] h6
    refine fx_iload_n (i := 3) d_MO_outBy_105 rfl rfl ?_
    refine fx_istore_n (i := 1) (ls2 := [some (.ref 31), some (.int (zI x3)), some (.int (zI x2)), some (.int (zI x3)), none, none, some (.int (zI x6)), some (.int (zI x7))]) d_MO_outBy_106 rfl (by decide) rfl ?_
    refine fx_iconst d_MO_outBy_107 ?_
    refine fx_iload_n (i := 2) d_MO_outBy_108 rfl rfl ?_
    refine fx_isub d_MO_outBy_109 ?_
    refine fx_istore_n (i := 2) (ls2 := [some (.ref 31), some (.int (zI x3)), some (.int (zI (1 - x2))), some (.int (zI x3)), none, none, some (.int (zI x6)), some (.int (zI x7))]) d_MO_outBy_110 rfl (by decide) rfl ?_
    refine fx_goto (n := 158) d_MO_outBy_111 ?_
    refine fx_goto (n := 4) d_MO_outBy_158 ?_
    exact fx_fewer [some (.ref 31), some (.int (zI x3)), some (.int (zI (1 - x2))), none, none, none, none, none] ⟨rfl, rfl, rfl, trivial⟩ H
  · replace H := H.2 z5
    refine fx_iinc (v := x7 + 1) (ls2 := [some (.ref 31), none, some (.int (zI x2)), some (.int (zI x3)), none, none, some (.int (zI x6)), some (.int (zI (x7 + 1)))]) d_MO_outBy_91 rfl rfl (by decide) rfl ?_
    refine fx_goto (n := 82) d_MO_outBy_94 ?_
    exact H

set_option maxRecDepth 100000 in
set_option maxHeartbeats 4000000 in
theorem e_MO_firstNot {l : Launch} {Q : Option Value → fx_H → Prop} {h : fx_H}  {x : Int} {y : Int}  {a : Nat → Nat} {pp dd : Nat} (hS : h.1 = fx_S0 a pp dd) 
    (H : (fx_V l M_MO_firstNot (0, 0) Q 0 0 4 [some (.ref 31), none, some (.int (zI y)), some (.int (zI (x + 1)))] [] h)) :
    fx_Mt l M_MO_firstNot (0, 0) [.ref 31, .int (zI x), .int (zI y)] h Q := by
  refine fx_entry (ls := [some (.ref 31), some (.int (zI x)), some (.int (zI y)), none]) (by decide) (Nat.le_of_ble_eq_true rfl) rfl ?_
  refine fx_iload_n (i := 1) d_MO_firstNot_0 rfl rfl ?_
  refine fx_iconst d_MO_firstNot_1 ?_
  refine fx_iadd d_MO_firstNot_2 ?_
  refine fx_istore_n (i := 3) (ls2 := [some (.ref 31), some (.int (zI x)), some (.int (zI y)), some (.int (zI (x + 1)))]) d_MO_firstNot_3 rfl (by decide) rfl ?_
  exact fx_fewer [some (.ref 31), none, some (.int (zI y)), some (.int (zI (x + 1)))] ⟨rfl, rfl, rfl, trivial⟩ H

set_option maxRecDepth 100000 in
set_option maxHeartbeats 4000000 in
theorem w_MO_firstNot_4 {l : Launch} {Q : Option Value → fx_H → Prop} {h : fx_H}  {x2 : Int} {x3 : Int}  {a : Nat → Nat} {pp dd : Nat} (hS : h.1 = fx_S0 a pp dd) 
    (H : zR x3 ∧ zR (h.2.1 31 15) ∧ (((h.2.1 31 15) ≤ x3 → Q (some (.int (zI x3))) h) ∧ (¬ ((h.2.1 31 15) ≤ x3) → 0 ≤ x3 ∧ x3 < 40 ∧ zR (h.2.2.1 36 (x3.toNat)) ∧ zR x2 ∧ ((¬ (h.2.2.1 36 (x3.toNat)) = x2 → Q (some (.int (zI x3))) h) ∧ ((h.2.2.1 36 (x3.toNat)) = x2 → (fx_V l M_MO_firstNot (0, 0) Q 0 0 4 [some (.ref 31), none, some (.int (zI x2)), some (.int (zI (x3 + 1)))] [] h)))))) :
    fx_V l M_MO_firstNot (0, 0) Q 0 0 4 [some (.ref 31), none, some (.int (zI x2)), some (.int (zI x3))] [] h := by
  refine fx_iload_n (i := 3) d_MO_firstNot_4 rfl rfl ?_
  refine fx_aload_n (i := 0) d_MO_firstNot_5 rfl rfl ?_
  refine fx_getI d_MO_firstNot_6 lk_MO_131 (at_31 (h := _) hS) rfl ?_
  obtain ⟨hz1, H⟩ := H
  obtain ⟨hz2, H⟩ := H
  refine fx_icmp_ge (t := 28) (n := 12) d_MO_firstNot_9 hz1 hz2 (fun z3 => ?_) (fun z3 => ?_)
  · replace H := H.1 z3
    refine fx_iload_n (i := 3) d_MO_firstNot_28 rfl rfl ?_
    exact fx_end (some (.int (zI x3))) ⟨⟨_, rfl, rfl⟩, d_MO_firstNot_29⟩ (Nat.le_refl _) (Nat.le_refl _) rfl H
  · replace H := H.2 z3
    refine fx_aload_n (i := 0) d_MO_firstNot_12 rfl rfl ?_
    refine fx_getR (q := 36) d_MO_firstNot_13 lk_MO_41 (at_31 (h := _) hS) rfl rfl ?_
    refine fx_iload_n (i := 3) d_MO_firstNot_16 rfl rfl ?_
    obtain ⟨hn4, H⟩ := H
    obtain ⟨hn5, H⟩ := H
    refine fx_iald d_MO_firstNot_17 (at_36 (h := _) hS) hn4 hn5 (by decide) ?_
    refine fx_iload_n (i := 2) d_MO_firstNot_18 rfl rfl ?_
    obtain ⟨hz6, H⟩ := H
    obtain ⟨hz7, H⟩ := H
    refine fx_icmp_ne (t := 28) (n := 22) d_MO_firstNot_19 hz6 hz7 (fun z8 => ?_) (fun z8 => ?_)
    · replace H := H.1 z8
      refine fx_iload_n (i := 3) d_MO_firstNot_28 rfl rfl ?_
      exact fx_end (some (.int (zI x3))) ⟨⟨_, rfl, rfl⟩, d_MO_firstNot_29⟩ (Nat.le_refl _) (Nat.le_refl _) rfl H
    · replace H := H.2 z8
      refine fx_iinc (v := x3 + 1) (ls2 := [some (.ref 31), none, some (.int (zI x2)), some (.int (zI (x3 + 1)))]) d_MO_firstNot_22 rfl rfl (by decide) rfl ?_
      refine fx_goto (n := 4) d_MO_firstNot_25 ?_
      exact H

set_option maxRecDepth 100000 in
set_option maxHeartbeats 4000000 in
theorem e_MO_changeAbove {l : Launch} {Q : Option Value → fx_H → Prop} {h : fx_H}  {x : Int} {y : Int}  {a : Nat → Nat} {pp dd : Nat} (hS : h.1 = fx_S0 a pp dd) 
    (H : (fx_V l M_MO_changeAbove (0, 0) Q 0 0 4 [some (.ref 31), none, some (.int (zI y)), some (.int (zI (x + 1)))] [] h)) :
    fx_Mt l M_MO_changeAbove (0, 0) [.ref 31, .int (zI x), .int (zI y)] h Q := by
  refine fx_entry (ls := [some (.ref 31), some (.int (zI x)), some (.int (zI y)), none]) (by decide) (Nat.le_of_ble_eq_true rfl) rfl ?_
  refine fx_iload_n (i := 1) d_MO_changeAbove_0 rfl rfl ?_
  refine fx_iconst d_MO_changeAbove_1 ?_
  refine fx_iadd d_MO_changeAbove_2 ?_
  refine fx_istore_n (i := 3) (ls2 := [some (.ref 31), some (.int (zI x)), some (.int (zI y)), some (.int (zI (x + 1)))]) d_MO_changeAbove_3 rfl (by decide) rfl ?_
  exact fx_fewer [some (.ref 31), none, some (.int (zI y)), some (.int (zI (x + 1)))] ⟨rfl, rfl, rfl, trivial⟩ H

set_option maxRecDepth 100000 in
set_option maxHeartbeats 4000000 in
theorem w_MO_changeAbove_4 {l : Launch} {Q : Option Value → fx_H → Prop} {h : fx_H}  {x2 : Int} {x3 : Int}  {a : Nat → Nat} {pp dd : Nat} (hS : h.1 = fx_S0 a pp dd) 
    (H : zR x3 ∧ zR (h.2.1 31 15) ∧ (((h.2.1 31 15) ≤ x3 → Q (some (.int (zI x3))) h) ∧ (¬ ((h.2.1 31 15) ≤ x3) → 0 ≤ x3 ∧ x3 < 40 ∧ zR (h.2.2.1 37 (x3.toNat)) ∧ zR x2 ∧ (((h.2.2.1 37 (x3.toNat)) = x2 → (fx_V l M_MO_changeAbove (0, 0) Q 0 0 4 [some (.ref 31), none, some (.int (zI x2)), some (.int (zI (x3 + 1)))] [] h)) ∧ (¬ ((h.2.2.1 37 (x3.toNat)) = x2) → ((x3 = 0 → Q (some (.int (zI x3))) h) ∧ (¬ (x3 = 0) → 0 ≤ (x3 - 1) ∧ (x3 - 1) < 40 ∧ zR (h.2.2.1 37 ((x3 - 1).toNat)) ∧ (((h.2.2.1 37 ((x3 - 1).toNat)) = x2 → Q (some (.int (zI x3))) h) ∧ (¬ ((h.2.2.1 37 ((x3 - 1).toNat)) = x2) → (fx_V l M_MO_changeAbove (0, 0) Q 0 0 4 [some (.ref 31), none, some (.int (zI x2)), some (.int (zI (x3 + 1)))] [] h)))))))))) :
    fx_V l M_MO_changeAbove (0, 0) Q 0 0 4 [some (.ref 31), none, some (.int (zI x2)), some (.int (zI x3))] [] h := by
  refine fx_iload_n (i := 3) d_MO_changeAbove_4 rfl rfl ?_
  refine fx_aload_n (i := 0) d_MO_changeAbove_5 rfl rfl ?_
  refine fx_getI d_MO_changeAbove_6 lk_MO_131 (at_31 (h := _) hS) rfl ?_
  obtain ⟨hz1, H⟩ := H
  obtain ⟨hz2, H⟩ := H
  refine fx_icmp_ge (t := 44) (n := 12) d_MO_changeAbove_9 hz1 hz2 (fun z3 => ?_) (fun z3 => ?_)
  · replace H := H.1 z3
    refine fx_iload_n (i := 3) d_MO_changeAbove_44 rfl rfl ?_
    exact fx_end (some (.int (zI x3))) ⟨⟨_, rfl, rfl⟩, d_MO_changeAbove_45⟩ (Nat.le_refl _) (Nat.le_refl _) rfl H
  · replace H := H.2 z3
    refine fx_aload_n (i := 0) d_MO_changeAbove_12 rfl rfl ?_
    refine fx_getR (q := 37) d_MO_changeAbove_13 lk_MO_44 (at_31 (h := _) hS) rfl rfl ?_
    refine fx_iload_n (i := 3) d_MO_changeAbove_16 rfl rfl ?_
    obtain ⟨hn4, H⟩ := H
    obtain ⟨hn5, H⟩ := H
    refine fx_iald d_MO_changeAbove_17 (at_37 (h := _) hS) hn4 hn5 (by decide) ?_
    refine fx_iload_n (i := 2) d_MO_changeAbove_18 rfl rfl ?_
    obtain ⟨hz6, H⟩ := H
    obtain ⟨hz7, H⟩ := H
    refine fx_icmp_eq (t := 38) (n := 22) d_MO_changeAbove_19 hz6 hz7 (fun z8 => ?_) (fun z8 => ?_)
    · replace H := H.1 z8
      refine fx_iinc (v := x3 + 1) (ls2 := [some (.ref 31), none, some (.int (zI x2)), some (.int (zI (x3 + 1)))]) d_MO_changeAbove_38 rfl rfl (by decide) rfl ?_
      refine fx_goto (n := 4) d_MO_changeAbove_41 ?_
      exact H
    · replace H := H.2 z8
      refine fx_iload_n (i := 3) d_MO_changeAbove_22 rfl rfl ?_
      refine fx_if_eq (t := 44) (n := 26) d_MO_changeAbove_23 hz1 (fun z9 => ?_) (fun z9 => ?_)
      · replace H := H.1 z9
        refine fx_iload_n (i := 3) d_MO_changeAbove_44 rfl rfl ?_
        exact fx_end (some (.int (zI x3))) ⟨⟨_, rfl, rfl⟩, d_MO_changeAbove_45⟩ (Nat.le_refl _) (Nat.le_refl _) rfl H
      · replace H := H.2 z9
        refine fx_aload_n (i := 0) d_MO_changeAbove_26 rfl rfl ?_
        refine fx_getR (q := 37) d_MO_changeAbove_27 lk_MO_44 (at_31 (h := _) hS) rfl rfl ?_
        refine fx_iload_n (i := 3) d_MO_changeAbove_30 rfl rfl ?_
        refine fx_iconst d_MO_changeAbove_31 ?_
        refine fx_isub d_MO_changeAbove_32 ?_
        obtain ⟨hn10, H⟩ := H
        obtain ⟨hn11, H⟩ := H
        refine fx_iald d_MO_changeAbove_33 (at_37 (h := _) hS) hn10 hn11 (by decide) ?_
        refine fx_iload_n (i := 2) d_MO_changeAbove_34 rfl rfl ?_
        obtain ⟨hz12, H⟩ := H
        refine fx_icmp_eq (t := 44) (n := 38) d_MO_changeAbove_35 hz12 hz7 (fun z13 => ?_) (fun z13 => ?_)
        · replace H := H.1 z13
          refine fx_iload_n (i := 3) d_MO_changeAbove_44 rfl rfl ?_
          exact fx_end (some (.int (zI x3))) ⟨⟨_, rfl, rfl⟩, d_MO_changeAbove_45⟩ (Nat.le_refl _) (Nat.le_refl _) rfl H
        · replace H := H.2 z13
          refine fx_iinc (v := x3 + 1) (ls2 := [some (.ref 31), none, some (.int (zI x2)), some (.int (zI (x3 + 1)))]) d_MO_changeAbove_38 rfl rfl (by decide) rfl ?_
          refine fx_goto (n := 4) d_MO_changeAbove_41 ?_
          exact H

set_option maxRecDepth 100000 in
set_option maxHeartbeats 4000000 in
theorem e_MO_changeBack {l : Launch} {Q : Option Value → fx_H → Prop} {h : fx_H}  {x : Int} {y : Int}  {a : Nat → Nat} {pp dd : Nat} (hS : h.1 = fx_S0 a pp dd) 
    (H : (fx_V l M_MO_changeBack (0, 0) Q 0 0 2 [some (.ref 31), none, some (.int (zI y)), some (.int (zI x))] [] h)) :
    fx_Mt l M_MO_changeBack (0, 0) [.ref 31, .int (zI x), .int (zI y)] h Q := by
  refine fx_entry (ls := [some (.ref 31), some (.int (zI x)), some (.int (zI y)), none]) (by decide) (Nat.le_of_ble_eq_true rfl) rfl ?_
  refine fx_iload_n (i := 1) d_MO_changeBack_0 rfl rfl ?_
  refine fx_istore_n (i := 3) (ls2 := [some (.ref 31), some (.int (zI x)), some (.int (zI y)), some (.int (zI x))]) d_MO_changeBack_1 rfl (by decide) rfl ?_
  exact fx_fewer [some (.ref 31), none, some (.int (zI y)), some (.int (zI x))] ⟨rfl, rfl, rfl, trivial⟩ H

set_option maxRecDepth 100000 in
set_option maxHeartbeats 4000000 in
theorem w_MO_changeBack_2 {l : Launch} {Q : Option Value → fx_H → Prop} {h : fx_H}  {x2 : Int} {x3 : Int}  {a : Nat → Nat} {pp dd : Nat} (hS : h.1 = fx_S0 a pp dd) 
    (H : zR x3 ∧ zR (h.2.1 31 15) ∧ (((h.2.1 31 15) ≤ x3 → Q (some (.int (zI x3))) h) ∧ (¬ ((h.2.1 31 15) ≤ x3) → 0 ≤ x3 ∧ x3 < 40 ∧ zR (h.2.2.1 37 (x3.toNat)) ∧ zR x2 ∧ (((h.2.2.1 37 (x3.toNat)) = x2 → Q (some (.int (zI x3))) h) ∧ (¬ ((h.2.2.1 37 (x3.toNat)) = x2) → (fx_V l M_MO_changeBack (0, 0) Q 0 0 2 [some (.ref 31), none, some (.int (zI x2)), some (.int (zI (x3 + 1)))] [] h)))))) :
    fx_V l M_MO_changeBack (0, 0) Q 0 0 2 [some (.ref 31), none, some (.int (zI x2)), some (.int (zI x3))] [] h := by
  refine fx_iload_n (i := 3) d_MO_changeBack_2 rfl rfl ?_
  refine fx_aload_n (i := 0) d_MO_changeBack_3 rfl rfl ?_
  refine fx_getI d_MO_changeBack_4 lk_MO_131 (at_31 (h := _) hS) rfl ?_
  obtain ⟨hz1, H⟩ := H
  obtain ⟨hz2, H⟩ := H
  refine fx_icmp_ge (t := 26) (n := 10) d_MO_changeBack_7 hz1 hz2 (fun z3 => ?_) (fun z3 => ?_)
  · replace H := H.1 z3
    refine fx_iload_n (i := 3) d_MO_changeBack_26 rfl rfl ?_
    exact fx_end (some (.int (zI x3))) ⟨⟨_, rfl, rfl⟩, d_MO_changeBack_27⟩ (Nat.le_refl _) (Nat.le_refl _) rfl H
  · replace H := H.2 z3
    refine fx_aload_n (i := 0) d_MO_changeBack_10 rfl rfl ?_
    refine fx_getR (q := 37) d_MO_changeBack_11 lk_MO_44 (at_31 (h := _) hS) rfl rfl ?_
    refine fx_iload_n (i := 3) d_MO_changeBack_14 rfl rfl ?_
    obtain ⟨hn4, H⟩ := H
    obtain ⟨hn5, H⟩ := H
    refine fx_iald d_MO_changeBack_15 (at_37 (h := _) hS) hn4 hn5 (by decide) ?_
    refine fx_iload_n (i := 2) d_MO_changeBack_16 rfl rfl ?_
    obtain ⟨hz6, H⟩ := H
    obtain ⟨hz7, H⟩ := H
    refine fx_icmp_eq (t := 26) (n := 20) d_MO_changeBack_17 hz6 hz7 (fun z8 => ?_) (fun z8 => ?_)
    · replace H := H.1 z8
      refine fx_iload_n (i := 3) d_MO_changeBack_26 rfl rfl ?_
      exact fx_end (some (.int (zI x3))) ⟨⟨_, rfl, rfl⟩, d_MO_changeBack_27⟩ (Nat.le_refl _) (Nat.le_refl _) rfl H
    · replace H := H.2 z8
      refine fx_iinc (v := x3 + 1) (ls2 := [some (.ref 31), none, some (.int (zI x2)), some (.int (zI (x3 + 1)))]) d_MO_changeBack_20 rfl rfl (by decide) rfl ?_
      refine fx_goto (n := 2) d_MO_changeBack_23 ?_
      exact H

set_option maxRecDepth 100000 in
set_option maxHeartbeats 4000000 in
theorem e_MO_near {l : Launch} {Q : Option Value → fx_H → Prop} {h : fx_H}  {x : Int}  {a : Nat → Nat} {pp dd : Nat} (hS : h.1 = fx_S0 a pp dd) 
    (H : zR x ∧ (((x < (-3) ∨ 2 < x) → Q (some (.int (zI 131))) h) ∧ (x = -3 → Q (some (.int (zI 130))) h) ∧ (x = -2 → Q (some (.int (zI 66))) h) ∧ (x = -1 → Q (some (.int (zI 10))) h) ∧ (x = 0 → Q (some (.int (zI 3))) h) ∧ (x = 1 → Q (some (.int (zI 11))) h) ∧ (x = 2 → Q (some (.int (zI 67))) h))) :
    fx_Mt l M_MO_near (0, 0) [.int (zI x)] h Q := by
  refine fx_entry (ls := [some (.int (zI x))]) (by decide) (Nat.le_of_ble_eq_true rfl) rfl ?_
  refine fx_iload_n (i := 0) d_MO_near_0 rfl rfl ?_
  obtain ⟨hz1, H⟩ := H
  obtain ⟨H0, H⟩ := H
  rcases Classical.em (x < (-3) ∨ 2 < x) with z2 | z2
  · replace H := H0 z2
    refine fx_tableOut (n := 58) d_MO_near_1 hz1 z2 ?_
    refine fx_sipush (v := 131) d_MO_near_58 rfl ?_
    exact fx_end (some (.int (zI 131))) ⟨⟨_, rfl, rfl⟩, d_MO_near_61⟩ (Nat.le_refl _) (Nat.le_refl _) rfl H
  · rcases (show x = -3 ∨ x = -2 ∨ x = -1 ∨ x = 0 ∨ x = 1 ∨ x = 2 by omega) with z2e | z2e | z2e | z2e | z2e | z2e
    · replace H := H.1 z2e
      refine fx_tableIn (n := 40) d_MO_near_1 hz1 (by omega) (by omega) (by rw [z2e]; rfl) ?_
      refine fx_sipush (v := 130) d_MO_near_40 rfl ?_
      exact fx_end (some (.int (zI 130))) ⟨⟨_, rfl, rfl⟩, d_MO_near_43⟩ (Nat.le_refl _) (Nat.le_refl _) rfl H
    · replace H := H.2.1 z2e
      refine fx_tableIn (n := 44) d_MO_near_1 hz1 (by omega) (by omega) (by rw [z2e]; rfl) ?_
      refine fx_bipush (v := 66) d_MO_near_44 rfl ?_
      exact fx_end (some (.int (zI 66))) ⟨⟨_, rfl, rfl⟩, d_MO_near_46⟩ (Nat.le_refl _) (Nat.le_refl _) rfl H
    · replace H := H.2.2.1 z2e
      refine fx_tableIn (n := 47) d_MO_near_1 hz1 (by omega) (by omega) (by rw [z2e]; rfl) ?_
      refine fx_bipush (v := 10) d_MO_near_47 rfl ?_
      exact fx_end (some (.int (zI 10))) ⟨⟨_, rfl, rfl⟩, d_MO_near_49⟩ (Nat.le_refl _) (Nat.le_refl _) rfl H
    · replace H := H.2.2.2.1 z2e
      refine fx_tableIn (n := 50) d_MO_near_1 hz1 (by omega) (by omega) (by rw [z2e]; rfl) ?_
      refine fx_iconst d_MO_near_50 ?_
      exact fx_end (some (.int (zI 3))) ⟨⟨_, rfl, rfl⟩, d_MO_near_51⟩ (Nat.le_refl _) (Nat.le_refl _) rfl H
    · replace H := H.2.2.2.2.1 z2e
      refine fx_tableIn (n := 52) d_MO_near_1 hz1 (by omega) (by omega) (by rw [z2e]; rfl) ?_
      refine fx_bipush (v := 11) d_MO_near_52 rfl ?_
      exact fx_end (some (.int (zI 11))) ⟨⟨_, rfl, rfl⟩, d_MO_near_54⟩ (Nat.le_refl _) (Nat.le_refl _) rfl H
    · replace H := H.2.2.2.2.2 z2e
      refine fx_tableIn (n := 55) d_MO_near_1 hz1 (by omega) (by omega) (by rw [z2e]; rfl) ?_
      refine fx_bipush (v := 67) d_MO_near_55 rfl ?_
      exact fx_end (some (.int (zI 67))) ⟨⟨_, rfl, rfl⟩, d_MO_near_57⟩ (Nat.le_refl _) (Nat.le_refl _) rfl H

set_option maxRecDepth 100000 in
set_option maxHeartbeats 4000000 in
theorem e_MO_firstAgain {l : Launch} {Q : Option Value → fx_H → Prop} {h : fx_H}  {x : Int} {y : Int}  {a : Nat → Nat} {pp dd : Nat} (hS : h.1 = fx_S0 a pp dd) 
    (H : (fx_V l M_MO_firstAgain (0, 0) Q 0 0 2 [some (.ref 31), none, some (.int (zI y)), some (.int (zI x))] [] h)) :
    fx_Mt l M_MO_firstAgain (0, 0) [.ref 31, .int (zI x), .int (zI y)] h Q := by
  refine fx_entry (ls := [some (.ref 31), some (.int (zI x)), some (.int (zI y)), none]) (by decide) (Nat.le_of_ble_eq_true rfl) rfl ?_
  refine fx_iload_n (i := 1) d_MO_firstAgain_0 rfl rfl ?_
  refine fx_istore_n (i := 3) (ls2 := [some (.ref 31), some (.int (zI x)), some (.int (zI y)), some (.int (zI x))]) d_MO_firstAgain_1 rfl (by decide) rfl ?_
  exact fx_fewer [some (.ref 31), none, some (.int (zI y)), some (.int (zI x))] ⟨rfl, rfl, rfl, trivial⟩ H

set_option maxRecDepth 100000 in
set_option maxHeartbeats 4000000 in
theorem w_MO_firstAgain_2 {l : Launch} {Q : Option Value → fx_H → Prop} {h : fx_H}  {x2 : Int} {x3 : Int}  {a : Nat → Nat} {pp dd : Nat} (hS : h.1 = fx_S0 a pp dd) 
    (H : zR x3 ∧ zR (h.2.1 31 15) ∧ (((h.2.1 31 15) ≤ x3 → Q (some (.int (zI x3))) h) ∧ (¬ ((h.2.1 31 15) ≤ x3) → 0 ≤ x3 ∧ x3 < 40 ∧ zR (h.2.2.1 36 (x3.toNat)) ∧ zR x2 ∧ (((h.2.2.1 36 (x3.toNat)) = x2 → Q (some (.int (zI x3))) h) ∧ (¬ ((h.2.2.1 36 (x3.toNat)) = x2) → (fx_V l M_MO_firstAgain (0, 0) Q 0 0 2 [some (.ref 31), none, some (.int (zI x2)), some (.int (zI (x3 + 1)))] [] h)))))) :
    fx_V l M_MO_firstAgain (0, 0) Q 0 0 2 [some (.ref 31), none, some (.int (zI x2)), some (.int (zI x3))] [] h := by
  refine fx_iload_n (i := 3) d_MO_firstAgain_2 rfl rfl ?_
  refine fx_aload_n (i := 0) d_MO_firstAgain_3 rfl rfl ?_
  refine fx_getI d_MO_firstAgain_4 lk_MO_131 (at_31 (h := _) hS) rfl ?_
  obtain ⟨hz1, H⟩ := H
  obtain ⟨hz2, H⟩ := H
  refine fx_icmp_ge (t := 26) (n := 10) d_MO_firstAgain_7 hz1 hz2 (fun z3 => ?_) (fun z3 => ?_)
  · replace H := H.1 z3
    refine fx_iload_n (i := 3) d_MO_firstAgain_26 rfl rfl ?_
    exact fx_end (some (.int (zI x3))) ⟨⟨_, rfl, rfl⟩, d_MO_firstAgain_27⟩ (Nat.le_refl _) (Nat.le_refl _) rfl H
  · replace H := H.2 z3
    refine fx_aload_n (i := 0) d_MO_firstAgain_10 rfl rfl ?_
    refine fx_getR (q := 36) d_MO_firstAgain_11 lk_MO_41 (at_31 (h := _) hS) rfl rfl ?_
    refine fx_iload_n (i := 3) d_MO_firstAgain_14 rfl rfl ?_
    obtain ⟨hn4, H⟩ := H
    obtain ⟨hn5, H⟩ := H
    refine fx_iald d_MO_firstAgain_15 (at_36 (h := _) hS) hn4 hn5 (by decide) ?_
    refine fx_iload_n (i := 2) d_MO_firstAgain_16 rfl rfl ?_
    obtain ⟨hz6, H⟩ := H
    obtain ⟨hz7, H⟩ := H
    refine fx_icmp_eq (t := 26) (n := 20) d_MO_firstAgain_17 hz6 hz7 (fun z8 => ?_) (fun z8 => ?_)
    · replace H := H.1 z8
      refine fx_iload_n (i := 3) d_MO_firstAgain_26 rfl rfl ?_
      exact fx_end (some (.int (zI x3))) ⟨⟨_, rfl, rfl⟩, d_MO_firstAgain_27⟩ (Nat.le_refl _) (Nat.le_refl _) rfl H
    · replace H := H.2 z8
      refine fx_iinc (v := x3 + 1) (ls2 := [some (.ref 31), none, some (.int (zI x2)), some (.int (zI (x3 + 1)))]) d_MO_firstAgain_20 rfl rfl (by decide) rfl ?_
      refine fx_goto (n := 2) d_MO_firstAgain_23 ?_
      exact H

set_option maxRecDepth 100000 in
set_option maxHeartbeats 4000000 in
theorem e_MO_outTags {l : Launch} {Q : Option Value → fx_H → Prop} {h : fx_H}  {x : Int} {y : Int}  {a : Nat → Nat} {pp dd : Nat} (hS : h.1 = fx_S0 a pp dd) 
    (H : zR (h.2.1 31 12) ∧ ((¬ (h.2.1 31 12) = 3 → (fx_V l M_MO_outTags (0, 0) Q 0 0 16 [some (.ref 31), some (.int (zI x)), some (.int (zI y))] [.int (zI 8), .ref 31] h)) ∧ ((h.2.1 31 12) = 3 → (fx_V l M_MO_outTags (0, 0) Q 0 0 16 [some (.ref 31), some (.int (zI x)), some (.int (zI y))] [.int (zI 9), .ref 31] h)))) :
    fx_Mt l M_MO_outTags (0, 0) [.ref 31, .int (zI x), .int (zI y)] h Q := by
  refine fx_entry (ls := [some (.ref 31), some (.int (zI x)), some (.int (zI y))]) (by decide) (Nat.le_of_ble_eq_true rfl) rfl ?_
  refine fx_aload_n (i := 0) d_MO_outTags_0 rfl rfl ?_
  refine fx_aload_n (i := 0) d_MO_outTags_1 rfl rfl ?_
  refine fx_getI d_MO_outTags_2 lk_MO_180 (at_31 (h := _) hS) rfl ?_
  refine fx_iconst d_MO_outTags_5 ?_
  obtain ⟨hz1, H⟩ := H
  refine fx_icmp_ne (t := 14) (n := 9) d_MO_outTags_6 hz1 (show zR 3 by decide) (fun z2 => ?_) (fun z2 => ?_)
  · replace H := H.1 z2
    refine fx_bipush (v := 8) d_MO_outTags_14 rfl ?_
    exact H
  · replace H := H.2 z2
    refine fx_bipush (v := 9) d_MO_outTags_9 rfl ?_
    refine fx_goto (n := 16) d_MO_outTags_11 ?_
    exact H

set_option maxRecDepth 100000 in
set_option maxHeartbeats 4000000 in
theorem w_MO_outTags_16 {l : Launch} {Q : Option Value → fx_H → Prop} {h : fx_H}  {x1 : Int} {x2 : Int} {y0 : Int}  {a : Nat → Nat} {pp dd : Nat} (hS : h.1 = fx_S0 a pp dd) 
    (H : fx_Mt l M_MO_outNumber (0, 0) [.ref 31, .int (zI y0), .int (zI 2)] h (fun v h1 => v = none ∧ h1.1 = h.1 ∧ fx_Mt l M_MO_outTag (0, 0) [.ref 31, .int (zI 256), .int (zI 0), .int (zI 1), .int (zI (h1.2.1 31 15))] h1 (fun v h3 => v = none ∧ h3.1 = h1.1 ∧ fx_Mt l M_MO_outTag (0, 0) [.ref 31, .int (zI 257), .int (zI 0), .int (zI 1), .int (zI (h3.2.1 31 16))] h3 (fun v h5 => v = none ∧ h5.1 = h3.1 ∧ zR (h5.2.1 31 14) ∧ (((h5.2.1 31 14) = 0 → (fx_V l M_MO_outTags (0, 0) Q 0 0 65 [some (.ref 31), some (.int (zI x1)), some (.int (zI x2))] [.int (zI 1), .int (zI 1), .int (zI 0), .int (zI 258), .ref 31] h5)) ∧ (¬ ((h5.2.1 31 14) = 0) → (fx_V l M_MO_outTags (0, 0) Q 0 0 65 [some (.ref 31), some (.int (zI x1)), some (.int (zI x2))] [.int (zI 8), .int (zI 1), .int (zI 0), .int (zI 258), .ref 31] h5))))))) :
    fx_V l M_MO_outTags (0, 0) Q 0 0 16 [some (.ref 31), some (.int (zI x1)), some (.int (zI x2))] [.int (zI y0), .ref 31] h := by
  refine fx_iconst d_MO_outTags_16 ?_
  refine fx_callV (M' := M_MO_outNumber) (B' := (0, 0)) (vs := [.int (zI y0), .int (zI 2)]) (rest := []) (c1 := 0) (s1 := 0) (n := 20) d_MO_outTags_17 ca_MO_outTags_209 (at_31 (h := _) hS) rfl rfl rfl ⟨by decide, by decide⟩ (Nat.le_of_ble_eq_true rfl) (Or.inl rfl) (fx_Mt.mono H fun v h1 hv => ?_)
  obtain ⟨rfl, e2, H⟩ := hv
  have hS1 := e2.trans hS
  show fx_V l M_MO_outTags (0, 0) Q 0 0 20 [some (.ref 31), some (.int (zI x1)), some (.int (zI x2))] [] h1
  refine fx_aload_n (i := 0) d_MO_outTags_20 rfl rfl ?_
  refine fx_sipush (v := 256) d_MO_outTags_21 rfl ?_
  refine fx_iconst d_MO_outTags_24 ?_
  refine fx_iconst d_MO_outTags_25 ?_
  refine fx_aload_n (i := 0) d_MO_outTags_26 rfl rfl ?_
  refine fx_getI d_MO_outTags_27 lk_MO_131 (at_31 (h := _) hS1) rfl ?_
  refine fx_callV (M' := M_MO_outTag) (B' := (0, 0)) (vs := [.int (zI 256), .int (zI 0), .int (zI 1), .int (zI (h1.2.1 31 15))]) (rest := []) (c1 := 0) (s1 := 0) (n := 33) d_MO_outTags_30 ca_MO_outTags_212 (at_31 (h := _) hS1) rfl rfl rfl ⟨by decide, by decide⟩ (Nat.le_of_ble_eq_true rfl) (Or.inl rfl) (fx_Mt.mono H fun v h3 hv => ?_)
  obtain ⟨rfl, e4, H⟩ := hv
  have hS3 := e4.trans hS1
  show fx_V l M_MO_outTags (0, 0) Q 0 0 33 [some (.ref 31), some (.int (zI x1)), some (.int (zI x2))] [] h3
  refine fx_aload_n (i := 0) d_MO_outTags_33 rfl rfl ?_
  refine fx_sipush (v := 257) d_MO_outTags_34 rfl ?_
  refine fx_iconst d_MO_outTags_37 ?_
  refine fx_iconst d_MO_outTags_38 ?_
  refine fx_aload_n (i := 0) d_MO_outTags_39 rfl rfl ?_
  refine fx_getI d_MO_outTags_40 lk_MO_216 (at_31 (h := _) hS3) rfl ?_
  refine fx_callV (M' := M_MO_outTag) (B' := (0, 0)) (vs := [.int (zI 257), .int (zI 0), .int (zI 1), .int (zI (h3.2.1 31 16))]) (rest := []) (c1 := 0) (s1 := 0) (n := 46) d_MO_outTags_43 ca_MO_outTags_212 (at_31 (h := _) hS3) rfl rfl rfl ⟨by decide, by decide⟩ (Nat.le_of_ble_eq_true rfl) (Or.inl rfl) (fx_Mt.mono H fun v h5 hv => ?_)
  obtain ⟨rfl, e6, H⟩ := hv
  have hS5 := e6.trans hS3
  show fx_V l M_MO_outTags (0, 0) Q 0 0 46 [some (.ref 31), some (.int (zI x1)), some (.int (zI x2))] [] h5
  refine fx_aload_n (i := 0) d_MO_outTags_46 rfl rfl ?_
  refine fx_sipush (v := 258) d_MO_outTags_47 rfl ?_
  refine fx_iconst d_MO_outTags_50 ?_
  refine fx_iconst d_MO_outTags_51 ?_
  refine fx_aload_n (i := 0) d_MO_outTags_52 rfl rfl ?_
  refine fx_getI d_MO_outTags_53 lk_MO_128 (at_31 (h := _) hS5) rfl ?_
  obtain ⟨hz7, H⟩ := H
  refine fx_if_eq (t := 64) (n := 59) d_MO_outTags_56 hz7 (fun z8 => ?_) (fun z8 => ?_)
  · replace H := H.1 z8
    refine fx_iconst d_MO_outTags_64 ?_
    exact H
  · replace H := H.2 z8
    refine fx_bipush (v := 8) d_MO_outTags_59 rfl ?_
    refine fx_goto (n := 65) d_MO_outTags_61 ?_
    exact H

set_option maxRecDepth 100000 in
set_option maxHeartbeats 4000000 in
theorem w_MO_outTags_65 {l : Launch} {Q : Option Value → fx_H → Prop} {h : fx_H}  {x1 : Int} {x2 : Int} {y0 : Int} {y1 : Int} {y2 : Int} {y3 : Int}  {a : Nat → Nat} {pp dd : Nat} (hS : h.1 = fx_S0 a pp dd) 
    (H : fx_Mt l M_MO_outTag (0, 0) [.ref 31, .int (zI y3), .int (zI y2), .int (zI y1), .int (zI y0)] h (fun v h1 => v = none ∧ h1.1 = h.1 ∧ fx_Mt l M_MO_outTag (0, 0) [.ref 31, .int (zI 259), .int (zI 0), .int (zI 1), .int (zI (h1.2.1 31 12))] h1 (fun v h3 => v = none ∧ h3.1 = h1.1 ∧ zR (h3.2.1 31 14) ∧ (((h3.2.1 31 14) = 0 → (fx_V l M_MO_outTags (0, 0) Q 0 0 99 [some (.ref 31), some (.int (zI x1)), some (.int (zI x2))] [.int (zI 0), .int (zI 1), .int (zI 0), .int (zI 262), .ref 31] h3)) ∧ (¬ ((h3.2.1 31 14) = 0) → (fx_V l M_MO_outTags (0, 0) Q 0 0 99 [some (.ref 31), some (.int (zI x1)), some (.int (zI x2))] [.int (zI 1), .int (zI 1), .int (zI 0), .int (zI 262), .ref 31] h3)))))) :
    fx_V l M_MO_outTags (0, 0) Q 0 0 65 [some (.ref 31), some (.int (zI x1)), some (.int (zI x2))] [.int (zI y0), .int (zI y1), .int (zI y2), .int (zI y3), .ref 31] h := by
  refine fx_callV (M' := M_MO_outTag) (B' := (0, 0)) (vs := [.int (zI y3), .int (zI y2), .int (zI y1), .int (zI y0)]) (rest := []) (c1 := 0) (s1 := 0) (n := 68) d_MO_outTags_65 ca_MO_outTags_212 (at_31 (h := _) hS) rfl rfl rfl ⟨by decide, by decide⟩ (Nat.le_of_ble_eq_true rfl) (Or.inl rfl) (fx_Mt.mono H fun v h1 hv => ?_)
  obtain ⟨rfl, e2, H⟩ := hv
  have hS1 := e2.trans hS
  show fx_V l M_MO_outTags (0, 0) Q 0 0 68 [some (.ref 31), some (.int (zI x1)), some (.int (zI x2))] [] h1
  refine fx_aload_n (i := 0) d_MO_outTags_68 rfl rfl ?_
  refine fx_sipush (v := 259) d_MO_outTags_69 rfl ?_
  refine fx_iconst d_MO_outTags_72 ?_
  refine fx_iconst d_MO_outTags_73 ?_
  refine fx_aload_n (i := 0) d_MO_outTags_74 rfl rfl ?_
  refine fx_getI d_MO_outTags_75 lk_MO_180 (at_31 (h := _) hS1) rfl ?_
  refine fx_callV (M' := M_MO_outTag) (B' := (0, 0)) (vs := [.int (zI 259), .int (zI 0), .int (zI 1), .int (zI (h1.2.1 31 12))]) (rest := []) (c1 := 0) (s1 := 0) (n := 81) d_MO_outTags_78 ca_MO_outTags_212 (at_31 (h := _) hS1) rfl rfl rfl ⟨by decide, by decide⟩ (Nat.le_of_ble_eq_true rfl) (Or.inl rfl) (fx_Mt.mono H fun v h3 hv => ?_)
  obtain ⟨rfl, e4, H⟩ := hv
  have hS3 := e4.trans hS1
  show fx_V l M_MO_outTags (0, 0) Q 0 0 81 [some (.ref 31), some (.int (zI x1)), some (.int (zI x2))] [] h3
  refine fx_aload_n (i := 0) d_MO_outTags_81 rfl rfl ?_
  refine fx_sipush (v := 262) d_MO_outTags_82 rfl ?_
  refine fx_iconst d_MO_outTags_85 ?_
  refine fx_iconst d_MO_outTags_86 ?_
  refine fx_aload_n (i := 0) d_MO_outTags_87 rfl rfl ?_
  refine fx_getI d_MO_outTags_88 lk_MO_128 (at_31 (h := _) hS3) rfl ?_
  obtain ⟨hz5, H⟩ := H
  refine fx_if_eq (t := 98) (n := 94) d_MO_outTags_91 hz5 (fun z6 => ?_) (fun z6 => ?_)
  · replace H := H.1 z6
    refine fx_iconst d_MO_outTags_98 ?_
    exact H
  · replace H := H.2 z6
    refine fx_iconst d_MO_outTags_94 ?_
    refine fx_goto (n := 99) d_MO_outTags_95 ?_
    exact H

set_option maxRecDepth 100000 in
set_option maxHeartbeats 4000000 in
theorem w_MO_outTags_99 {l : Launch} {Q : Option Value → fx_H → Prop} {h : fx_H}  {x1 : Int} {x2 : Int} {y0 : Int} {y1 : Int} {y2 : Int} {y3 : Int}  {a : Nat → Nat} {pp dd : Nat} (hS : h.1 = fx_S0 a pp dd) 
    (H : fx_Mt l M_MO_outTag (0, 0) [.ref 31, .int (zI y3), .int (zI y2), .int (zI y1), .int (zI y0)] h (fun v h1 => v = none ∧ h1.1 = h.1 ∧ zR x1 ∧ ((¬ x1 = 1 → (fx_V l M_MO_outTags (0, 0) Q 0 0 123 [some (.ref 31), some (.int (zI x1)), some (.int (zI x2))] [.int (zI x2), .int (zI x1), .int (zI 1), .int (zI 273), .ref 31] h1)) ∧ (x1 = 1 → (fx_V l M_MO_outTags (0, 0) Q 0 0 123 [some (.ref 31), some (.int (zI x1)), some (.int (zI x2))] [.int (zI (h1.2.2.1 41 0)), .int (zI x1), .int (zI 1), .int (zI 273), .ref 31] h1))))) :
    fx_V l M_MO_outTags (0, 0) Q 0 0 99 [some (.ref 31), some (.int (zI x1)), some (.int (zI x2))] [.int (zI y0), .int (zI y1), .int (zI y2), .int (zI y3), .ref 31] h := by
  refine fx_callV (M' := M_MO_outTag) (B' := (0, 0)) (vs := [.int (zI y3), .int (zI y2), .int (zI y1), .int (zI y0)]) (rest := []) (c1 := 0) (s1 := 0) (n := 102) d_MO_outTags_99 ca_MO_outTags_212 (at_31 (h := _) hS) rfl rfl rfl ⟨by decide, by decide⟩ (Nat.le_of_ble_eq_true rfl) (Or.inl rfl) (fx_Mt.mono H fun v h1 hv => ?_)
  obtain ⟨rfl, e2, H⟩ := hv
  have hS1 := e2.trans hS
  show fx_V l M_MO_outTags (0, 0) Q 0 0 102 [some (.ref 31), some (.int (zI x1)), some (.int (zI x2))] [] h1
  refine fx_aload_n (i := 0) d_MO_outTags_102 rfl rfl ?_
  refine fx_sipush (v := 273) d_MO_outTags_103 rfl ?_
  refine fx_iconst d_MO_outTags_106 ?_
  refine fx_iload_n (i := 1) d_MO_outTags_107 rfl rfl ?_
  refine fx_iload_n (i := 1) d_MO_outTags_108 rfl rfl ?_
  refine fx_iconst d_MO_outTags_109 ?_
  obtain ⟨hz3, H⟩ := H
  refine fx_icmp_ne (t := 122) (n := 113) d_MO_outTags_110 hz3 (show zR 1 by decide) (fun z4 => ?_) (fun z4 => ?_)
  · replace H := H.1 z4
    refine fx_iload_n (i := 2) d_MO_outTags_122 rfl rfl ?_
    exact H
  · replace H := H.2 z4
    refine fx_aload_n (i := 0) d_MO_outTags_113 rfl rfl ?_
    refine fx_getR (q := 41) d_MO_outTags_114 lk_MO_56 (at_31 (h := _) hS1) rfl rfl ?_
    refine fx_iconst d_MO_outTags_117 ?_
    refine fx_iald d_MO_outTags_118 (at_41 (h := _) hS1) (by decide) (by decide) (by decide) ?_
    refine fx_goto (n := 123) d_MO_outTags_119 ?_
    exact H

set_option maxRecDepth 100000 in
set_option maxHeartbeats 4000000 in
theorem w_MO_outTags_123 {l : Launch} {Q : Option Value → fx_H → Prop} {h : fx_H}  {x1 : Int} {x2 : Int} {y0 : Int} {y1 : Int} {y2 : Int} {y3 : Int}  {a : Nat → Nat} {pp dd : Nat} (hS : h.1 = fx_S0 a pp dd) 
    (H : fx_Mt l M_MO_outTag (0, 0) [.ref 31, .int (zI y3), .int (zI y2), .int (zI y1), .int (zI y0)] h (fun v h1 => v = none ∧ h1.1 = h.1 ∧ fx_Mt l M_MO_outTag (0, 0) [.ref 31, .int (zI 278), .int (zI 0), .int (zI 1), .int (zI (h1.2.1 31 13))] h1 (fun v h3 => v = none ∧ h3.1 = h1.1 ∧ zR x1 ∧ ((¬ x1 = 1 → (fx_V l M_MO_outTags (0, 0) Q 0 0 164 [some (.ref 31), none, none] [.int (zI (x2 + (4 * x1))), .int (zI x1), .int (zI 1), .int (zI 279), .ref 31] h3)) ∧ (x1 = 1 → (fx_V l M_MO_outTags (0, 0) Q 0 0 164 [some (.ref 31), none, none] [.int (zI (h3.2.2.1 42 0)), .int (zI x1), .int (zI 1), .int (zI 279), .ref 31] h3)))))) :
    fx_V l M_MO_outTags (0, 0) Q 0 0 123 [some (.ref 31), some (.int (zI x1)), some (.int (zI x2))] [.int (zI y0), .int (zI y1), .int (zI y2), .int (zI y3), .ref 31] h := by
  refine fx_callV (M' := M_MO_outTag) (B' := (0, 0)) (vs := [.int (zI y3), .int (zI y2), .int (zI y1), .int (zI y0)]) (rest := []) (c1 := 0) (s1 := 0) (n := 126) d_MO_outTags_123 ca_MO_outTags_212 (at_31 (h := _) hS) rfl rfl rfl ⟨by decide, by decide⟩ (Nat.le_of_ble_eq_true rfl) (Or.inl rfl) (fx_Mt.mono H fun v h1 hv => ?_)
  obtain ⟨rfl, e2, H⟩ := hv
  have hS1 := e2.trans hS
  show fx_V l M_MO_outTags (0, 0) Q 0 0 126 [some (.ref 31), some (.int (zI x1)), some (.int (zI x2))] [] h1
  refine fx_aload_n (i := 0) d_MO_outTags_126 rfl rfl ?_
  refine fx_sipush (v := 278) d_MO_outTags_127 rfl ?_
  refine fx_iconst d_MO_outTags_130 ?_
  refine fx_iconst d_MO_outTags_131 ?_
  refine fx_aload_n (i := 0) d_MO_outTags_132 rfl rfl ?_
  refine fx_getI d_MO_outTags_133 lk_MO_219 (at_31 (h := _) hS1) rfl ?_
  refine fx_callV (M' := M_MO_outTag) (B' := (0, 0)) (vs := [.int (zI 278), .int (zI 0), .int (zI 1), .int (zI (h1.2.1 31 13))]) (rest := []) (c1 := 0) (s1 := 0) (n := 139) d_MO_outTags_136 ca_MO_outTags_212 (at_31 (h := _) hS1) rfl rfl rfl ⟨by decide, by decide⟩ (Nat.le_of_ble_eq_true rfl) (Or.inl rfl) (fx_Mt.mono H fun v h3 hv => ?_)
  obtain ⟨rfl, e4, H⟩ := hv
  have hS3 := e4.trans hS1
  show fx_V l M_MO_outTags (0, 0) Q 0 0 139 [some (.ref 31), some (.int (zI x1)), some (.int (zI x2))] [] h3
  refine fx_aload_n (i := 0) d_MO_outTags_139 rfl rfl ?_
  refine fx_sipush (v := 279) d_MO_outTags_140 rfl ?_
  refine fx_iconst d_MO_outTags_143 ?_
  refine fx_iload_n (i := 1) d_MO_outTags_144 rfl rfl ?_
  refine fx_iload_n (i := 1) d_MO_outTags_145 rfl rfl ?_
  refine fx_iconst d_MO_outTags_146 ?_
  obtain ⟨hz5, H⟩ := H
  refine fx_icmp_ne (t := 159) (n := 150) d_MO_outTags_147 hz5 (show zR 1 by decide) (fun z6 => ?_) (fun z6 => ?_)
  · replace H := H.1 z6
    refine fx_iload_n (i := 2) d_MO_outTags_159 rfl rfl ?_
    refine fx_iconst d_MO_outTags_160 ?_
    refine fx_iload_n (i := 1) d_MO_outTags_161 rfl rfl ?_
    refine fx_imul d_MO_outTags_162 ?_
    refine fx_iadd d_MO_outTags_163 ?_
    exact fx_fewer [some (.ref 31), none, none] ⟨rfl, trivial⟩ H
  · replace H := H.2 z6
    refine fx_aload_n (i := 0) d_MO_outTags_150 rfl rfl ?_
    refine fx_getR (q := 42) d_MO_outTags_151 lk_MO_59 (at_31 (h := _) hS3) rfl rfl ?_
    refine fx_iconst d_MO_outTags_154 ?_
    refine fx_iald d_MO_outTags_155 (at_42 (h := _) hS3) (by decide) (by decide) (by decide) ?_
    refine fx_goto (n := 164) d_MO_outTags_156 ?_
    exact fx_fewer [some (.ref 31), none, none] ⟨rfl, trivial⟩ H

set_option maxRecDepth 100000 in
set_option maxHeartbeats 4000000 in
theorem w_MO_outTags_164 {l : Launch} {Q : Option Value → fx_H → Prop} {h : fx_H}  {y0 : Int} {y1 : Int} {y2 : Int} {y3 : Int}  {a : Nat → Nat} {pp dd : Nat} (hS : h.1 = fx_S0 a pp dd) 
    (H : fx_Mt l M_MO_outTag (0, 0) [.ref 31, .int (zI y3), .int (zI y2), .int (zI y1), .int (zI y0)] h (fun v h1 => v = none ∧ h1.1 = h.1 ∧ zR (h1.2.1 31 12) ∧ ((¬ (h1.2.1 31 12) = 3 → fx_Mt l M_MO_outNumber (0, 0) [.ref 31, .int (zI 0), .int (zI 4)] h1 (fun v h5 => v = none ∧ h5.1 = h1.1 ∧ Q none h5)) ∧ ((h1.2.1 31 12) = 3 → fx_Mt l M_MO_outTag (0, 0) [.ref 31, .int (zI 292), .int (zI 1), .int (zI 1), .int (zI 1)] h1 (fun v h7 => v = none ∧ h7.1 = h1.1 ∧ (fx_V l M_MO_outTags (0, 0) Q 0 0 185 [some (.ref 31), none, none] [] h7)))))) :
    fx_V l M_MO_outTags (0, 0) Q 0 0 164 [some (.ref 31), none, none] [.int (zI y0), .int (zI y1), .int (zI y2), .int (zI y3), .ref 31] h := by
  refine fx_callV (M' := M_MO_outTag) (B' := (0, 0)) (vs := [.int (zI y3), .int (zI y2), .int (zI y1), .int (zI y0)]) (rest := []) (c1 := 0) (s1 := 0) (n := 167) d_MO_outTags_164 ca_MO_outTags_212 (at_31 (h := _) hS) rfl rfl rfl ⟨by decide, by decide⟩ (Nat.le_of_ble_eq_true rfl) (Or.inl rfl) (fx_Mt.mono H fun v h1 hv => ?_)
  obtain ⟨rfl, e2, H⟩ := hv
  have hS1 := e2.trans hS
  show fx_V l M_MO_outTags (0, 0) Q 0 0 167 [some (.ref 31), none, none] [] h1
  refine fx_aload_n (i := 0) d_MO_outTags_167 rfl rfl ?_
  refine fx_getI d_MO_outTags_168 lk_MO_180 (at_31 (h := _) hS1) rfl ?_
  refine fx_iconst d_MO_outTags_171 ?_
  obtain ⟨hz3, H⟩ := H
  refine fx_icmp_ne (t := 185) (n := 175) d_MO_outTags_172 hz3 (show zR 3 by decide) (fun z4 => ?_) (fun z4 => ?_)
  · replace H := H.1 z4
    refine fx_aload_n (i := 0) d_MO_outTags_185 rfl rfl ?_
    refine fx_iconst d_MO_outTags_186 ?_
    refine fx_iconst d_MO_outTags_187 ?_
    refine fx_callV (M' := M_MO_outNumber) (B' := (0, 0)) (vs := [.int (zI 0), .int (zI 4)]) (rest := []) (c1 := 0) (s1 := 0) (n := 191) d_MO_outTags_188 ca_MO_outTags_209 (at_31 (h := _) hS1) rfl rfl rfl ⟨by decide, by decide⟩ (Nat.le_of_ble_eq_true rfl) (Or.inl rfl) (fx_Mt.mono H fun v h5 hv => ?_)
    obtain ⟨rfl, e6, H⟩ := hv
    have hS5 := e6.trans hS1
    show fx_V l M_MO_outTags (0, 0) Q 0 0 191 [some (.ref 31), none, none] [] h5
    exact fx_end none ⟨rfl, d_MO_outTags_191⟩ (Nat.le_refl _) (Nat.le_refl _) rfl H
  · replace H := H.2 z4
    refine fx_aload_n (i := 0) d_MO_outTags_175 rfl rfl ?_
    refine fx_sipush (v := 292) d_MO_outTags_176 rfl ?_
    refine fx_iconst d_MO_outTags_179 ?_
    refine fx_iconst d_MO_outTags_180 ?_
    refine fx_iconst d_MO_outTags_181 ?_
    refine fx_callV (M' := M_MO_outTag) (B' := (0, 0)) (vs := [.int (zI 292), .int (zI 1), .int (zI 1), .int (zI 1)]) (rest := []) (c1 := 0) (s1 := 0) (n := 185) d_MO_outTags_182 ca_MO_outTags_212 (at_31 (h := _) hS1) rfl rfl rfl ⟨by decide, by decide⟩ (Nat.le_of_ble_eq_true rfl) (Or.inl rfl) (fx_Mt.mono H fun v h7 hv => ?_)
    obtain ⟨rfl, e8, H⟩ := hv
    have hS7 := e8.trans hS1
    show fx_V l M_MO_outTags (0, 0) Q 0 0 185 [some (.ref 31), none, none] [] h7
    exact H

set_option maxRecDepth 100000 in
set_option maxHeartbeats 4000000 in
theorem w_MO_outTags_185 {l : Launch} {Q : Option Value → fx_H → Prop} {h : fx_H}    {a : Nat → Nat} {pp dd : Nat} (hS : h.1 = fx_S0 a pp dd) 
    (H : fx_Mt l M_MO_outNumber (0, 0) [.ref 31, .int (zI 0), .int (zI 4)] h (fun v h1 => v = none ∧ h1.1 = h.1 ∧ Q none h1)) :
    fx_V l M_MO_outTags (0, 0) Q 0 0 185 [some (.ref 31), none, none] [] h := by
  refine fx_aload_n (i := 0) d_MO_outTags_185 rfl rfl ?_
  refine fx_iconst d_MO_outTags_186 ?_
  refine fx_iconst d_MO_outTags_187 ?_
  refine fx_callV (M' := M_MO_outNumber) (B' := (0, 0)) (vs := [.int (zI 0), .int (zI 4)]) (rest := []) (c1 := 0) (s1 := 0) (n := 191) d_MO_outTags_188 ca_MO_outTags_209 (at_31 (h := _) hS) rfl rfl rfl ⟨by decide, by decide⟩ (Nat.le_of_ble_eq_true rfl) (Or.inl rfl) (fx_Mt.mono H fun v h1 hv => ?_)
  obtain ⟨rfl, e2, H⟩ := hv
  have hS1 := e2.trans hS
  show fx_V l M_MO_outTags (0, 0) Q 0 0 191 [some (.ref 31), none, none] [] h1
  exact fx_end none ⟨rfl, d_MO_outTags_191⟩ (Nat.le_refl _) (Nat.le_refl _) rfl H

set_option maxRecDepth 100000 in
set_option maxHeartbeats 4000000 in
theorem e_MO_outTag {l : Launch} {Q : Option Value → fx_H → Prop} {h : fx_H}  {x : Int} {y : Int} {z : Int} {u : Int}  {a : Nat → Nat} {pp dd : Nat} (hS : h.1 = fx_S0 a pp dd) 
    (H : fx_Mt l M_MO_outNumber (0, 0) [.ref 31, .int (zI x), .int (zI 2)] h (fun v h1 => v = none ∧ h1.1 = h.1 ∧ zR y ∧ ((y = 0 → fx_Mt l M_MO_outNumber (0, 0) [.ref 31, .int (zI 3), .int (zI 2)] h1 (fun v h5 => v = none ∧ h5.1 = h1.1 ∧ fx_Mt l M_MO_outNumber (0, 0) [.ref 31, .int (zI z), .int (zI 4)] h5 (fun v h7 => v = none ∧ h7.1 = h5.1 ∧ ((y = 0 → fx_Mt l M_MO_outNumber (0, 0) [.ref 31, .int (zI u), .int (zI 2)] h7 (fun v h10 => v = none ∧ h10.1 = h7.1 ∧ ((¬ y = 0 → Q none h10) ∧ (y = 0 → fx_Mt l M_MO_out (0, 0) [.ref 31, .int (zI 0)] h10 (fun v h13 => v = none ∧ h13.1 = h10.1 ∧ fx_Mt l M_MO_out (0, 0) [.ref 31, .int (zI 0)] h13 (fun v h15 => v = none ∧ h15.1 = h13.1 ∧ Q none h15)))))) ∧ (¬ (y = 0) → fx_Mt l M_MO_outNumber (0, 0) [.ref 31, .int (zI u), .int (zI 4)] h7 (fun v h17 => v = none ∧ h17.1 = h7.1 ∧ ((¬ y = 0 → Q none h17) ∧ (y = 0 → fx_Mt l M_MO_out (0, 0) [.ref 31, .int (zI 0)] h17 (fun v h20 => v = none ∧ h20.1 = h17.1 ∧ fx_Mt l M_MO_out (0, 0) [.ref 31, .int (zI 0)] h20 (fun v h22 => v = none ∧ h22.1 = h20.1 ∧ Q none h22)))))))))) ∧ (¬ (y = 0) → fx_Mt l M_MO_outNumber (0, 0) [.ref 31, .int (zI 4), .int (zI 2)] h1 (fun v h24 => v = none ∧ h24.1 = h1.1 ∧ fx_Mt l M_MO_outNumber (0, 0) [.ref 31, .int (zI z), .int (zI 4)] h24 (fun v h26 => v = none ∧ h26.1 = h24.1 ∧ ((y = 0 → fx_Mt l M_MO_outNumber (0, 0) [.ref 31, .int (zI u), .int (zI 2)] h26 (fun v h29 => v = none ∧ h29.1 = h26.1 ∧ ((¬ y = 0 → Q none h29) ∧ (y = 0 → fx_Mt l M_MO_out (0, 0) [.ref 31, .int (zI 0)] h29 (fun v h32 => v = none ∧ h32.1 = h29.1 ∧ fx_Mt l M_MO_out (0, 0) [.ref 31, .int (zI 0)] h32 (fun v h34 => v = none ∧ h34.1 = h32.1 ∧ Q none h34)))))) ∧ (¬ (y = 0) → fx_Mt l M_MO_outNumber (0, 0) [.ref 31, .int (zI u), .int (zI 4)] h26 (fun v h36 => v = none ∧ h36.1 = h26.1 ∧ ((¬ y = 0 → Q none h36) ∧ (y = 0 → fx_Mt l M_MO_out (0, 0) [.ref 31, .int (zI 0)] h36 (fun v h39 => v = none ∧ h39.1 = h36.1 ∧ fx_Mt l M_MO_out (0, 0) [.ref 31, .int (zI 0)] h39 (fun v h41 => v = none ∧ h41.1 = h39.1 ∧ Q none h41))))))))))))) :
    fx_Mt l M_MO_outTag (0, 0) [.ref 31, .int (zI x), .int (zI y), .int (zI z), .int (zI u)] h Q := by
  refine fx_entry (ls := [some (.ref 31), some (.int (zI x)), some (.int (zI y)), some (.int (zI z)), some (.int (zI u))]) (by decide) (Nat.le_of_ble_eq_true rfl) rfl ?_
  refine fx_aload_n (i := 0) d_MO_outTag_0 rfl rfl ?_
  refine fx_iload_n (i := 1) d_MO_outTag_1 rfl rfl ?_
  refine fx_iconst d_MO_outTag_2 ?_
  refine fx_callV (M' := M_MO_outNumber) (B' := (0, 0)) (vs := [.int (zI x), .int (zI 2)]) (rest := []) (c1 := 0) (s1 := 0) (n := 6) d_MO_outTag_3 ca_MO_outTag_209 (at_31 (h := _) hS) rfl rfl rfl ⟨by decide, by decide⟩ (Nat.le_of_ble_eq_true rfl) (Or.inl rfl) (fx_Mt.mono H fun v h1 hv => ?_)
  obtain ⟨rfl, e2, H⟩ := hv
  have hS1 := e2.trans hS
  show fx_V l M_MO_outTag (0, 0) Q 0 0 6 [some (.ref 31), some (.int (zI x)), some (.int (zI y)), some (.int (zI z)), some (.int (zI u))] [] h1
  refine fx_aload_n (i := 0) d_MO_outTag_6 rfl rfl ?_
  refine fx_iload_n (i := 2) d_MO_outTag_7 rfl rfl ?_
  obtain ⟨hz3, H⟩ := H
  refine fx_if_eq (t := 15) (n := 11) d_MO_outTag_8 hz3 (fun z4 => ?_) (fun z4 => ?_)
  · replace H := H.1 z4
    refine fx_iconst d_MO_outTag_15 ?_
    refine fx_iconst d_MO_outTag_16 ?_
    refine fx_callV (M' := M_MO_outNumber) (B' := (0, 0)) (vs := [.int (zI 3), .int (zI 2)]) (rest := []) (c1 := 0) (s1 := 0) (n := 20) d_MO_outTag_17 ca_MO_outTag_209 (at_31 (h := _) hS1) rfl rfl rfl ⟨by decide, by decide⟩ (Nat.le_of_ble_eq_true rfl) (Or.inl rfl) (fx_Mt.mono H fun v h5 hv => ?_)
    obtain ⟨rfl, e6, H⟩ := hv
    have hS5 := e6.trans hS1
    show fx_V l M_MO_outTag (0, 0) Q 0 0 20 [some (.ref 31), some (.int (zI x)), some (.int (zI y)), some (.int (zI z)), some (.int (zI u))] [] h5
    refine fx_aload_n (i := 0) d_MO_outTag_20 rfl rfl ?_
    refine fx_iload_n (i := 3) d_MO_outTag_21 rfl rfl ?_
    refine fx_iconst d_MO_outTag_22 ?_
    refine fx_callV (M' := M_MO_outNumber) (B' := (0, 0)) (vs := [.int (zI z), .int (zI 4)]) (rest := []) (c1 := 0) (s1 := 0) (n := 26) d_MO_outTag_23 ca_MO_outTag_209 (at_31 (h := _) hS5) rfl rfl rfl ⟨by decide, by decide⟩ (Nat.le_of_ble_eq_true rfl) (Or.inl rfl) (fx_Mt.mono H fun v h7 hv => ?_)
    obtain ⟨rfl, e8, H⟩ := hv
    have hS7 := e8.trans hS5
    show fx_V l M_MO_outTag (0, 0) Q 0 0 26 [some (.ref 31), some (.int (zI x)), some (.int (zI y)), some (.int (zI z)), some (.int (zI u))] [] h7
    refine fx_aload_n (i := 0) d_MO_outTag_26 rfl rfl ?_
    refine fx_iload d_MO_outTag_27 rfl ?_
    refine fx_iload_n (i := 2) d_MO_outTag_29 rfl rfl ?_
    refine fx_if_eq (t := 37) (n := 33) d_MO_outTag_30 hz3 (fun z9 => ?_) (fun z9 => ?_)
    · replace H := H.1 z9
      refine fx_iconst d_MO_outTag_37 ?_
      refine fx_callV (M' := M_MO_outNumber) (B' := (0, 0)) (vs := [.int (zI u), .int (zI 2)]) (rest := []) (c1 := 0) (s1 := 0) (n := 41) d_MO_outTag_38 ca_MO_outTag_209 (at_31 (h := _) hS7) rfl rfl rfl ⟨by decide, by decide⟩ (Nat.le_of_ble_eq_true rfl) (Or.inl rfl) (fx_Mt.mono H fun v h10 hv => ?_)
      obtain ⟨rfl, e11, H⟩ := hv
      have hS10 := e11.trans hS7
      show fx_V l M_MO_outTag (0, 0) Q 0 0 41 [some (.ref 31), some (.int (zI x)), some (.int (zI y)), some (.int (zI z)), some (.int (zI u))] [] h10
      refine fx_iload_n (i := 2) d_MO_outTag_41 rfl rfl ?_
      refine fx_if_ne (t := 55) (n := 45) d_MO_outTag_42 hz3 (fun z12 => ?_) (fun z12 => ?_)
      · replace H := H.1 z12
        exact fx_end none ⟨rfl, d_MO_outTag_55⟩ (Nat.le_refl _) (Nat.le_refl _) rfl H
      · replace H := H.2 z12
        refine fx_aload_n (i := 0) d_MO_outTag_45 rfl rfl ?_
        refine fx_iconst d_MO_outTag_46 ?_
        refine fx_callV (M' := M_MO_out) (B' := (0, 0)) (vs := [.int (zI 0)]) (rest := []) (c1 := 0) (s1 := 0) (n := 50) d_MO_outTag_47 ca_MO_outTag_111 (at_31 (h := _) hS10) rfl rfl rfl ⟨by decide, by decide⟩ (Nat.le_of_ble_eq_true rfl) (Or.inl rfl) (fx_Mt.mono H fun v h13 hv => ?_)
        obtain ⟨rfl, e14, H⟩ := hv
        have hS13 := e14.trans hS10
        show fx_V l M_MO_outTag (0, 0) Q 0 0 50 [some (.ref 31), some (.int (zI x)), some (.int (zI y)), some (.int (zI z)), some (.int (zI u))] [] h13
        refine fx_aload_n (i := 0) d_MO_outTag_50 rfl rfl ?_
        refine fx_iconst d_MO_outTag_51 ?_
        refine fx_callV (M' := M_MO_out) (B' := (0, 0)) (vs := [.int (zI 0)]) (rest := []) (c1 := 0) (s1 := 0) (n := 55) d_MO_outTag_52 ca_MO_outTag_111 (at_31 (h := _) hS13) rfl rfl rfl ⟨by decide, by decide⟩ (Nat.le_of_ble_eq_true rfl) (Or.inl rfl) (fx_Mt.mono H fun v h15 hv => ?_)
        obtain ⟨rfl, e16, H⟩ := hv
        have hS15 := e16.trans hS13
        show fx_V l M_MO_outTag (0, 0) Q 0 0 55 [some (.ref 31), some (.int (zI x)), some (.int (zI y)), some (.int (zI z)), some (.int (zI u))] [] h15
        exact fx_end none ⟨rfl, d_MO_outTag_55⟩ (Nat.le_refl _) (Nat.le_refl _) rfl H
    · replace H := H.2 z9
      refine fx_iconst d_MO_outTag_33 ?_
      refine fx_goto (n := 38) d_MO_outTag_34 ?_
      refine fx_callV (M' := M_MO_outNumber) (B' := (0, 0)) (vs := [.int (zI u), .int (zI 4)]) (rest := []) (c1 := 0) (s1 := 0) (n := 41) d_MO_outTag_38 ca_MO_outTag_209 (at_31 (h := _) hS7) rfl rfl rfl ⟨by decide, by decide⟩ (Nat.le_of_ble_eq_true rfl) (Or.inl rfl) (fx_Mt.mono H fun v h17 hv => ?_)
      obtain ⟨rfl, e18, H⟩ := hv
      have hS17 := e18.trans hS7
      show fx_V l M_MO_outTag (0, 0) Q 0 0 41 [some (.ref 31), some (.int (zI x)), some (.int (zI y)), some (.int (zI z)), some (.int (zI u))] [] h17
      refine fx_iload_n (i := 2) d_MO_outTag_41 rfl rfl ?_
      refine fx_if_ne (t := 55) (n := 45) d_MO_outTag_42 hz3 (fun z19 => ?_) (fun z19 => ?_)
      · replace H := H.1 z19
        exact fx_end none ⟨rfl, d_MO_outTag_55⟩ (Nat.le_refl _) (Nat.le_refl _) rfl H
      · replace H := H.2 z19
        refine fx_aload_n (i := 0) d_MO_outTag_45 rfl rfl ?_
        refine fx_iconst d_MO_outTag_46 ?_
        refine fx_callV (M' := M_MO_out) (B' := (0, 0)) (vs := [.int (zI 0)]) (rest := []) (c1 := 0) (s1 := 0) (n := 50) d_MO_outTag_47 ca_MO_outTag_111 (at_31 (h := _) hS17) rfl rfl rfl ⟨by decide, by decide⟩ (Nat.le_of_ble_eq_true rfl) (Or.inl rfl) (fx_Mt.mono H fun v h20 hv => ?_)
        obtain ⟨rfl, e21, H⟩ := hv
        have hS20 := e21.trans hS17
        show fx_V l M_MO_outTag (0, 0) Q 0 0 50 [some (.ref 31), some (.int (zI x)), some (.int (zI y)), some (.int (zI z)), some (.int (zI u))] [] h20
        refine fx_aload_n (i := 0) d_MO_outTag_50 rfl rfl ?_
        refine fx_iconst d_MO_outTag_51 ?_
        refine fx_callV (M' := M_MO_out) (B' := (0, 0)) (vs := [.int (zI 0)]) (rest := []) (c1 := 0) (s1 := 0) (n := 55) d_MO_outTag_52 ca_MO_outTag_111 (at_31 (h := _) hS20) rfl rfl rfl ⟨by decide, by decide⟩ (Nat.le_of_ble_eq_true rfl) (Or.inl rfl) (fx_Mt.mono H fun v h22 hv => ?_)
        obtain ⟨rfl, e23, H⟩ := hv
        have hS22 := e23.trans hS20
        show fx_V l M_MO_outTag (0, 0) Q 0 0 55 [some (.ref 31), some (.int (zI x)), some (.int (zI y)), some (.int (zI z)), some (.int (zI u))] [] h22
        exact fx_end none ⟨rfl, d_MO_outTag_55⟩ (Nat.le_refl _) (Nat.le_refl _) rfl H
  · replace H := H.2 z4
    refine fx_iconst d_MO_outTag_11 ?_
    refine fx_goto (n := 16) d_MO_outTag_12 ?_
    refine fx_iconst d_MO_outTag_16 ?_
    refine fx_callV (M' := M_MO_outNumber) (B' := (0, 0)) (vs := [.int (zI 4), .int (zI 2)]) (rest := []) (c1 := 0) (s1 := 0) (n := 20) d_MO_outTag_17 ca_MO_outTag_209 (at_31 (h := _) hS1) rfl rfl rfl ⟨by decide, by decide⟩ (Nat.le_of_ble_eq_true rfl) (Or.inl rfl) (fx_Mt.mono H fun v h24 hv => ?_)
    obtain ⟨rfl, e25, H⟩ := hv
    have hS24 := e25.trans hS1
    show fx_V l M_MO_outTag (0, 0) Q 0 0 20 [some (.ref 31), some (.int (zI x)), some (.int (zI y)), some (.int (zI z)), some (.int (zI u))] [] h24
    refine fx_aload_n (i := 0) d_MO_outTag_20 rfl rfl ?_
    refine fx_iload_n (i := 3) d_MO_outTag_21 rfl rfl ?_
    refine fx_iconst d_MO_outTag_22 ?_
    refine fx_callV (M' := M_MO_outNumber) (B' := (0, 0)) (vs := [.int (zI z), .int (zI 4)]) (rest := []) (c1 := 0) (s1 := 0) (n := 26) d_MO_outTag_23 ca_MO_outTag_209 (at_31 (h := _) hS24) rfl rfl rfl ⟨by decide, by decide⟩ (Nat.le_of_ble_eq_true rfl) (Or.inl rfl) (fx_Mt.mono H fun v h26 hv => ?_)
    obtain ⟨rfl, e27, H⟩ := hv
    have hS26 := e27.trans hS24
    show fx_V l M_MO_outTag (0, 0) Q 0 0 26 [some (.ref 31), some (.int (zI x)), some (.int (zI y)), some (.int (zI z)), some (.int (zI u))] [] h26
    refine fx_aload_n (i := 0) d_MO_outTag_26 rfl rfl ?_
    refine fx_iload d_MO_outTag_27 rfl ?_
    refine fx_iload_n (i := 2) d_MO_outTag_29 rfl rfl ?_
    refine fx_if_eq (t := 37) (n := 33) d_MO_outTag_30 hz3 (fun z28 => ?_) (fun z28 => ?_)
    · replace H := H.1 z28
      refine fx_iconst d_MO_outTag_37 ?_
      refine fx_callV (M' := M_MO_outNumber) (B' := (0, 0)) (vs := [.int (zI u), .int (zI 2)]) (rest := []) (c1 := 0) (s1 := 0) (n := 41) d_MO_outTag_38 ca_MO_outTag_209 (at_31 (h := _) hS26) rfl rfl rfl ⟨by decide, by decide⟩ (Nat.le_of_ble_eq_true rfl) (Or.inl rfl) (fx_Mt.mono H fun v h29 hv => ?_)
      obtain ⟨rfl, e30, H⟩ := hv
      have hS29 := e30.trans hS26
      show fx_V l M_MO_outTag (0, 0) Q 0 0 41 [some (.ref 31), some (.int (zI x)), some (.int (zI y)), some (.int (zI z)), some (.int (zI u))] [] h29
      refine fx_iload_n (i := 2) d_MO_outTag_41 rfl rfl ?_
      refine fx_if_ne (t := 55) (n := 45) d_MO_outTag_42 hz3 (fun z31 => ?_) (fun z31 => ?_)
      · replace H := H.1 z31
        exact fx_end none ⟨rfl, d_MO_outTag_55⟩ (Nat.le_refl _) (Nat.le_refl _) rfl H
      · replace H := H.2 z31
        refine fx_aload_n (i := 0) d_MO_outTag_45 rfl rfl ?_
        refine fx_iconst d_MO_outTag_46 ?_
        refine fx_callV (M' := M_MO_out) (B' := (0, 0)) (vs := [.int (zI 0)]) (rest := []) (c1 := 0) (s1 := 0) (n := 50) d_MO_outTag_47 ca_MO_outTag_111 (at_31 (h := _) hS29) rfl rfl rfl ⟨by decide, by decide⟩ (Nat.le_of_ble_eq_true rfl) (Or.inl rfl) (fx_Mt.mono H fun v h32 hv => ?_)
        obtain ⟨rfl, e33, H⟩ := hv
        have hS32 := e33.trans hS29
        show fx_V l M_MO_outTag (0, 0) Q 0 0 50 [some (.ref 31), some (.int (zI x)), some (.int (zI y)), some (.int (zI z)), some (.int (zI u))] [] h32
        refine fx_aload_n (i := 0) d_MO_outTag_50 rfl rfl ?_
        refine fx_iconst d_MO_outTag_51 ?_
        refine fx_callV (M' := M_MO_out) (B' := (0, 0)) (vs := [.int (zI 0)]) (rest := []) (c1 := 0) (s1 := 0) (n := 55) d_MO_outTag_52 ca_MO_outTag_111 (at_31 (h := _) hS32) rfl rfl rfl ⟨by decide, by decide⟩ (Nat.le_of_ble_eq_true rfl) (Or.inl rfl) (fx_Mt.mono H fun v h34 hv => ?_)
        obtain ⟨rfl, e35, H⟩ := hv
        have hS34 := e35.trans hS32
        show fx_V l M_MO_outTag (0, 0) Q 0 0 55 [some (.ref 31), some (.int (zI x)), some (.int (zI y)), some (.int (zI z)), some (.int (zI u))] [] h34
        exact fx_end none ⟨rfl, d_MO_outTag_55⟩ (Nat.le_refl _) (Nat.le_refl _) rfl H
    · replace H := H.2 z28
      refine fx_iconst d_MO_outTag_33 ?_
      refine fx_goto (n := 38) d_MO_outTag_34 ?_
      refine fx_callV (M' := M_MO_outNumber) (B' := (0, 0)) (vs := [.int (zI u), .int (zI 4)]) (rest := []) (c1 := 0) (s1 := 0) (n := 41) d_MO_outTag_38 ca_MO_outTag_209 (at_31 (h := _) hS26) rfl rfl rfl ⟨by decide, by decide⟩ (Nat.le_of_ble_eq_true rfl) (Or.inl rfl) (fx_Mt.mono H fun v h36 hv => ?_)
      obtain ⟨rfl, e37, H⟩ := hv
      have hS36 := e37.trans hS26
      show fx_V l M_MO_outTag (0, 0) Q 0 0 41 [some (.ref 31), some (.int (zI x)), some (.int (zI y)), some (.int (zI z)), some (.int (zI u))] [] h36
      refine fx_iload_n (i := 2) d_MO_outTag_41 rfl rfl ?_
      refine fx_if_ne (t := 55) (n := 45) d_MO_outTag_42 hz3 (fun z38 => ?_) (fun z38 => ?_)
      · replace H := H.1 z38
        exact fx_end none ⟨rfl, d_MO_outTag_55⟩ (Nat.le_refl _) (Nat.le_refl _) rfl H
      · replace H := H.2 z38
        refine fx_aload_n (i := 0) d_MO_outTag_45 rfl rfl ?_
        refine fx_iconst d_MO_outTag_46 ?_
        refine fx_callV (M' := M_MO_out) (B' := (0, 0)) (vs := [.int (zI 0)]) (rest := []) (c1 := 0) (s1 := 0) (n := 50) d_MO_outTag_47 ca_MO_outTag_111 (at_31 (h := _) hS36) rfl rfl rfl ⟨by decide, by decide⟩ (Nat.le_of_ble_eq_true rfl) (Or.inl rfl) (fx_Mt.mono H fun v h39 hv => ?_)
        obtain ⟨rfl, e40, H⟩ := hv
        have hS39 := e40.trans hS36
        show fx_V l M_MO_outTag (0, 0) Q 0 0 50 [some (.ref 31), some (.int (zI x)), some (.int (zI y)), some (.int (zI z)), some (.int (zI u))] [] h39
        refine fx_aload_n (i := 0) d_MO_outTag_50 rfl rfl ?_
        refine fx_iconst d_MO_outTag_51 ?_
        refine fx_callV (M' := M_MO_out) (B' := (0, 0)) (vs := [.int (zI 0)]) (rest := []) (c1 := 0) (s1 := 0) (n := 55) d_MO_outTag_52 ca_MO_outTag_111 (at_31 (h := _) hS39) rfl rfl rfl ⟨by decide, by decide⟩ (Nat.le_of_ble_eq_true rfl) (Or.inl rfl) (fx_Mt.mono H fun v h41 hv => ?_)
        obtain ⟨rfl, e42, H⟩ := hv
        have hS41 := e42.trans hS39
        show fx_V l M_MO_outTag (0, 0) Q 0 0 55 [some (.ref 31), some (.int (zI x)), some (.int (zI y)), some (.int (zI z)), some (.int (zI u))] [] h41
        exact fx_end none ⟨rfl, d_MO_outTag_55⟩ (Nat.le_refl _) (Nat.le_refl _) rfl H

set_option maxRecDepth 100000 in
set_option maxHeartbeats 4000000 in
theorem e_MO_note {l : Launch} {Q : Option Value → fx_H → Prop} {h : fx_H}  {x : Int}  {a : Nat → Nat} {pp dd : Nat} (hS : h.1 = fx_S0 a pp dd) 
    (H : zR (h.2.1 31 11) ∧ (((h.2.1 31 11) = 0 → Q none (fx_uF (fx_uF (fx_uF (fx_uF h 31 7 (h.2.1 31 12)) 31 8 0) 31 9 (h.2.1 31 13)) 31 10 x)) ∧ (¬ ((h.2.1 31 11) = 0) → Q none (fx_uF (fx_uF (fx_uF (fx_uF h 31 7 (h.2.1 31 12)) 31 8 1) 31 9 (h.2.1 31 13)) 31 10 x)))) :
    fx_Mt l M_MO_note (0, 0) [.ref 31, .int (zI x)] h Q := by
  refine fx_entry (ls := [some (.ref 31), some (.int (zI x))]) (by decide) (Nat.le_of_ble_eq_true rfl) rfl ?_
  refine fx_aload_n (i := 0) d_MO_note_0 rfl rfl ?_
  refine fx_aload_n (i := 0) d_MO_note_1 rfl rfl ?_
  refine fx_getI d_MO_note_2 lk_MO_180 (at_31 (h := _) hS) rfl ?_
  refine fx_putI d_MO_note_5 lk_MO_23 (at_31 (h := _) hS) rfl rfl rfl ?_
  refine fx_aload_n (i := 0) d_MO_note_8 rfl rfl ?_
  refine fx_aload_n (i := 0) d_MO_note_9 rfl rfl ?_
  refine fx_getI d_MO_note_10 lk_MO_108 (at_31 (h := _) hS) rfl ?_
  obtain ⟨hz1, H⟩ := H
  refine fx_if_eq (t := 20) (n := 16) d_MO_note_13 hz1 (fun z2 => ?_) (fun z2 => ?_)
  · replace H := H.1 z2
    refine fx_iconst d_MO_note_20 ?_
    refine fx_putI d_MO_note_21 lk_MO_26 (at_31 (h := _) hS) rfl rfl rfl ?_
    refine fx_aload_n (i := 0) d_MO_note_24 rfl rfl ?_
    refine fx_aload_n (i := 0) d_MO_note_25 rfl rfl ?_
    refine fx_getI d_MO_note_26 lk_MO_219 (at_31 (h := _) hS) rfl ?_
    refine fx_putI d_MO_note_29 lk_MO_29 (at_31 (h := _) hS) rfl rfl rfl ?_
    refine fx_aload_n (i := 0) d_MO_note_32 rfl rfl ?_
    refine fx_iload_n (i := 1) d_MO_note_33 rfl rfl ?_
    refine fx_putI d_MO_note_34 lk_MO_32 (at_31 (h := _) hS) rfl rfl rfl ?_
    exact fx_end none ⟨rfl, d_MO_note_37⟩ (Nat.le_refl _) (Nat.le_refl _) rfl H
  · replace H := H.2 z2
    refine fx_iconst d_MO_note_16 ?_
    refine fx_goto (n := 21) d_MO_note_17 ?_
    refine fx_putI d_MO_note_21 lk_MO_26 (at_31 (h := _) hS) rfl rfl rfl ?_
    refine fx_aload_n (i := 0) d_MO_note_24 rfl rfl ?_
    refine fx_aload_n (i := 0) d_MO_note_25 rfl rfl ?_
    refine fx_getI d_MO_note_26 lk_MO_219 (at_31 (h := _) hS) rfl ?_
    refine fx_putI d_MO_note_29 lk_MO_29 (at_31 (h := _) hS) rfl rfl rfl ?_
    refine fx_aload_n (i := 0) d_MO_note_32 rfl rfl ?_
    refine fx_iload_n (i := 1) d_MO_note_33 rfl rfl ?_
    refine fx_putI d_MO_note_34 lk_MO_32 (at_31 (h := _) hS) rfl rfl rfl ?_
    exact fx_end none ⟨rfl, d_MO_note_37⟩ (Nat.le_refl _) (Nat.le_refl _) rfl H

set_option maxRecDepth 100000 in
set_option maxHeartbeats 4000000 in
theorem e_MO_read {l : Launch} {Q : Option Value → fx_H → Prop} {h : fx_H}    {a : Nat → Nat} {pp dd : Nat} (hS : h.1 = fx_S0 a pp dd) 
    (H : zR (h.2.1 31 5) ∧ (((h.2.1 31 5) ≤ 0 → (((h.2.1 31 5) < 8 → Q (some (.int (zI (-1)))) (fx_uF (fx_uF h 31 0 0) 31 11 0)) ∧ (¬ ((h.2.1 31 5) < 8) → zR (h.2.2.1 33 0) ∧ zR (h.2.2.1 33 1) ∧ ((¬ (h.2.2.1 33 0) = (h.2.2.1 33 1) → Q (some (.int (zI (-1)))) (fx_uF (fx_uF h 31 0 0) 31 11 0)) ∧ ((h.2.2.1 33 0) = (h.2.2.1 33 1) → (((h.2.2.1 33 0) = 73 → fx_Mt l M_MO_number (0, 0) [.ref 31, .long (zL 2), .int (zI 2)] (fx_uF (fx_uF h 31 0 0) 31 11 0) (fun v h8 => ∃ r10 : Int, v = some (.long (zL r10)) ∧ h8.1 = (fx_uF (fx_uF h 31 0 0) 31 11 0).1 ∧ zRL r10 ∧ (((zC r10 42) = 0 → fx_Mt l M_MO_takeTags (0, 0) [.ref 31] h8 (fun v h13 => ∃ r15 : Int, v = some (.int (zI r15)) ∧ h13.1 = h8.1 ∧ zR r15 ∧ ((r15 = 0 → Q (some (.int (zI (-2)))) h13) ∧ (¬ (r15 = 0) → fx_Mt l M_MO_fit (0, 0) [.ref 31] h13 (fun v h18 => ∃ r20 : Int, v = some (.int (zI r20)) ∧ h18.1 = h13.1 ∧ zR r20 ∧ ((¬ r20 = 0 → 0 ≤ (((h18.2.1 31 16) + (h18.2.1 31 13)) - 1) ∧ zR (((h18.2.1 31 16) + (h18.2.1 31 13)) - 1) ∧ 0 < (h18.2.1 31 13) ∧ zR (h18.2.1 31 13) ∧ (fx_V l M_MO_read (0, 0) Q 0 0 131 [some (.ref 31), some (.int (zI ((((h18.2.1 31 16) + (h18.2.1 31 13)) - 1) / (h18.2.1 31 13)))), some (.int (zI 0))] [] h18)) ∧ (r20 = 0 → Q (some (.int (zI (-2)))) h18))))))) ∧ (¬ ((zC r10 42) = 0) → Q (some (.int (zI (-1)))) h8)))) ∧ (¬ ((h.2.2.1 33 0) = 73) → ((¬ (h.2.2.1 33 0) = 77 → Q (some (.int (zI (-1)))) (fx_uF (fx_uF h 31 0 0) 31 11 0)) ∧ ((h.2.2.1 33 0) = 77 → fx_Mt l M_MO_number (0, 0) [.ref 31, .long (zL 2), .int (zI 2)] (fx_uF (fx_uF h 31 0 0) 31 11 0) (fun v h28 => ∃ r30 : Int, v = some (.long (zL r30)) ∧ h28.1 = (fx_uF (fx_uF h 31 0 0) 31 11 0).1 ∧ zRL r30 ∧ (((zC r30 42) = 0 → fx_Mt l M_MO_takeTags (0, 0) [.ref 31] h28 (fun v h33 => ∃ r35 : Int, v = some (.int (zI r35)) ∧ h33.1 = h28.1 ∧ zR r35 ∧ ((r35 = 0 → Q (some (.int (zI (-2)))) h33) ∧ (¬ (r35 = 0) → fx_Mt l M_MO_fit (0, 0) [.ref 31] h33 (fun v h38 => ∃ r40 : Int, v = some (.int (zI r40)) ∧ h38.1 = h33.1 ∧ zR r40 ∧ ((¬ r40 = 0 → 0 ≤ (((h38.2.1 31 16) + (h38.2.1 31 13)) - 1) ∧ zR (((h38.2.1 31 16) + (h38.2.1 31 13)) - 1) ∧ 0 < (h38.2.1 31 13) ∧ zR (h38.2.1 31 13) ∧ (fx_V l M_MO_read (0, 0) Q 0 0 131 [some (.ref 31), some (.int (zI ((((h38.2.1 31 16) + (h38.2.1 31 13)) - 1) / (h38.2.1 31 13)))), some (.int (zI 0))] [] h38)) ∧ (r40 = 0 → Q (some (.int (zI (-2)))) h38))))))) ∧ (¬ ((zC r30 42) = 0) → Q (some (.int (zI (-1)))) h28)))))))))))) ∧ (¬ ((h.2.1 31 5) ≤ 0) → zR (h.2.2.1 33 0) ∧ ((¬ (h.2.2.1 33 0) = 77 → (((h.2.1 31 5) < 8 → Q (some (.int (zI (-1)))) (fx_uF (fx_uF h 31 0 0) 31 11 0)) ∧ (¬ ((h.2.1 31 5) < 8) → zR (h.2.2.1 33 1) ∧ ((¬ (h.2.2.1 33 0) = (h.2.2.1 33 1) → Q (some (.int (zI (-1)))) (fx_uF (fx_uF h 31 0 0) 31 11 0)) ∧ ((h.2.2.1 33 0) = (h.2.2.1 33 1) → (((h.2.2.1 33 0) = 73 → fx_Mt l M_MO_number (0, 0) [.ref 31, .long (zL 2), .int (zI 2)] (fx_uF (fx_uF h 31 0 0) 31 11 0) (fun v h53 => ∃ r55 : Int, v = some (.long (zL r55)) ∧ h53.1 = (fx_uF (fx_uF h 31 0 0) 31 11 0).1 ∧ zRL r55 ∧ (((zC r55 42) = 0 → fx_Mt l M_MO_takeTags (0, 0) [.ref 31] h53 (fun v h58 => ∃ r60 : Int, v = some (.int (zI r60)) ∧ h58.1 = h53.1 ∧ zR r60 ∧ ((r60 = 0 → Q (some (.int (zI (-2)))) h58) ∧ (¬ (r60 = 0) → fx_Mt l M_MO_fit (0, 0) [.ref 31] h58 (fun v h63 => ∃ r65 : Int, v = some (.int (zI r65)) ∧ h63.1 = h58.1 ∧ zR r65 ∧ ((¬ r65 = 0 → 0 ≤ (((h63.2.1 31 16) + (h63.2.1 31 13)) - 1) ∧ zR (((h63.2.1 31 16) + (h63.2.1 31 13)) - 1) ∧ 0 < (h63.2.1 31 13) ∧ zR (h63.2.1 31 13) ∧ (fx_V l M_MO_read (0, 0) Q 0 0 131 [some (.ref 31), some (.int (zI ((((h63.2.1 31 16) + (h63.2.1 31 13)) - 1) / (h63.2.1 31 13)))), some (.int (zI 0))] [] h63)) ∧ (r65 = 0 → Q (some (.int (zI (-2)))) h63))))))) ∧ (¬ ((zC r55 42) = 0) → Q (some (.int (zI (-1)))) h53)))) ∧ (¬ ((h.2.2.1 33 0) = 73) → ((¬ (h.2.2.1 33 0) = 77 → Q (some (.int (zI (-1)))) (fx_uF (fx_uF h 31 0 0) 31 11 0)) ∧ ((h.2.2.1 33 0) = 77 → fx_Mt l M_MO_number (0, 0) [.ref 31, .long (zL 2), .int (zI 2)] (fx_uF (fx_uF h 31 0 0) 31 11 0) (fun v h73 => ∃ r75 : Int, v = some (.long (zL r75)) ∧ h73.1 = (fx_uF (fx_uF h 31 0 0) 31 11 0).1 ∧ zRL r75 ∧ (((zC r75 42) = 0 → fx_Mt l M_MO_takeTags (0, 0) [.ref 31] h73 (fun v h78 => ∃ r80 : Int, v = some (.int (zI r80)) ∧ h78.1 = h73.1 ∧ zR r80 ∧ ((r80 = 0 → Q (some (.int (zI (-2)))) h78) ∧ (¬ (r80 = 0) → fx_Mt l M_MO_fit (0, 0) [.ref 31] h78 (fun v h83 => ∃ r85 : Int, v = some (.int (zI r85)) ∧ h83.1 = h78.1 ∧ zR r85 ∧ ((¬ r85 = 0 → 0 ≤ (((h83.2.1 31 16) + (h83.2.1 31 13)) - 1) ∧ zR (((h83.2.1 31 16) + (h83.2.1 31 13)) - 1) ∧ 0 < (h83.2.1 31 13) ∧ zR (h83.2.1 31 13) ∧ (fx_V l M_MO_read (0, 0) Q 0 0 131 [some (.ref 31), some (.int (zI ((((h83.2.1 31 16) + (h83.2.1 31 13)) - 1) / (h83.2.1 31 13)))), some (.int (zI 0))] [] h83)) ∧ (r85 = 0 → Q (some (.int (zI (-2)))) h83))))))) ∧ (¬ ((zC r75 42) = 0) → Q (some (.int (zI (-1)))) h73)))))))))))) ∧ ((h.2.2.1 33 0) = 77 → (((h.2.1 31 5) < 8 → Q (some (.int (zI (-1)))) (fx_uF (fx_uF h 31 0 0) 31 11 1)) ∧ (¬ ((h.2.1 31 5) < 8) → zR (h.2.2.1 33 1) ∧ ((¬ (h.2.2.1 33 0) = (h.2.2.1 33 1) → Q (some (.int (zI (-1)))) (fx_uF (fx_uF h 31 0 0) 31 11 1)) ∧ ((h.2.2.1 33 0) = (h.2.2.1 33 1) → (((h.2.2.1 33 0) = 73 → fx_Mt l M_MO_number (0, 0) [.ref 31, .long (zL 2), .int (zI 2)] (fx_uF (fx_uF h 31 0 0) 31 11 1) (fun v h96 => ∃ r98 : Int, v = some (.long (zL r98)) ∧ h96.1 = (fx_uF (fx_uF h 31 0 0) 31 11 1).1 ∧ zRL r98 ∧ (((zC r98 42) = 0 → fx_Mt l M_MO_takeTags (0, 0) [.ref 31] h96 (fun v h101 => ∃ r103 : Int, v = some (.int (zI r103)) ∧ h101.1 = h96.1 ∧ zR r103 ∧ ((r103 = 0 → Q (some (.int (zI (-2)))) h101) ∧ (¬ (r103 = 0) → fx_Mt l M_MO_fit (0, 0) [.ref 31] h101 (fun v h106 => ∃ r108 : Int, v = some (.int (zI r108)) ∧ h106.1 = h101.1 ∧ zR r108 ∧ ((¬ r108 = 0 → 0 ≤ (((h106.2.1 31 16) + (h106.2.1 31 13)) - 1) ∧ zR (((h106.2.1 31 16) + (h106.2.1 31 13)) - 1) ∧ 0 < (h106.2.1 31 13) ∧ zR (h106.2.1 31 13) ∧ (fx_V l M_MO_read (0, 0) Q 0 0 131 [some (.ref 31), some (.int (zI ((((h106.2.1 31 16) + (h106.2.1 31 13)) - 1) / (h106.2.1 31 13)))), some (.int (zI 0))] [] h106)) ∧ (r108 = 0 → Q (some (.int (zI (-2)))) h106))))))) ∧ (¬ ((zC r98 42) = 0) → Q (some (.int (zI (-1)))) h96)))) ∧ (¬ ((h.2.2.1 33 0) = 73) → ((¬ (h.2.2.1 33 0) = 77 → Q (some (.int (zI (-1)))) (fx_uF (fx_uF h 31 0 0) 31 11 1)) ∧ ((h.2.2.1 33 0) = 77 → fx_Mt l M_MO_number (0, 0) [.ref 31, .long (zL 2), .int (zI 2)] (fx_uF (fx_uF h 31 0 0) 31 11 1) (fun v h116 => ∃ r118 : Int, v = some (.long (zL r118)) ∧ h116.1 = (fx_uF (fx_uF h 31 0 0) 31 11 1).1 ∧ zRL r118 ∧ (((zC r118 42) = 0 → fx_Mt l M_MO_takeTags (0, 0) [.ref 31] h116 (fun v h121 => ∃ r123 : Int, v = some (.int (zI r123)) ∧ h121.1 = h116.1 ∧ zR r123 ∧ ((r123 = 0 → Q (some (.int (zI (-2)))) h121) ∧ (¬ (r123 = 0) → fx_Mt l M_MO_fit (0, 0) [.ref 31] h121 (fun v h126 => ∃ r128 : Int, v = some (.int (zI r128)) ∧ h126.1 = h121.1 ∧ zR r128 ∧ ((¬ r128 = 0 → 0 ≤ (((h126.2.1 31 16) + (h126.2.1 31 13)) - 1) ∧ zR (((h126.2.1 31 16) + (h126.2.1 31 13)) - 1) ∧ 0 < (h126.2.1 31 13) ∧ zR (h126.2.1 31 13) ∧ (fx_V l M_MO_read (0, 0) Q 0 0 131 [some (.ref 31), some (.int (zI ((((h126.2.1 31 16) + (h126.2.1 31 13)) - 1) / (h126.2.1 31 13)))), some (.int (zI 0))] [] h126)) ∧ (r128 = 0 → Q (some (.int (zI (-2)))) h126))))))) ∧ (¬ ((zC r118 42) = 0) → Q (some (.int (zI (-1)))) h116)))))))))))))))) :
    fx_Mt l M_MO_read (0, 0) [.ref 31] h Q := by
  refine fx_entry (ls := [some (.ref 31), none, none]) (by decide) (Nat.le_of_ble_eq_true rfl) rfl ?_
  refine fx_aload_n (i := 0) d_MO_read_0 rfl rfl ?_
  refine fx_iconst d_MO_read_1 ?_
  refine fx_putI d_MO_read_2 lk_MO_80 (at_31 (h := _) hS) rfl rfl rfl ?_
  refine fx_aload_n (i := 0) d_MO_read_5 rfl rfl ?_
  refine fx_aload_n (i := 0) d_MO_read_6 rfl rfl ?_
  refine fx_getI d_MO_read_7 lk_MO_105 (at_31 (h := _) hS) rfl ?_
  obtain ⟨hz1, H⟩ := H
  refine fx_if_le (t := 28) (n := 13) d_MO_read_10 hz1 (fun z2 => ?_) (fun z2 => ?_)
  · replace H := H.1 z2
    refine fx_iconst d_MO_read_28 ?_
    refine fx_putI d_MO_read_29 lk_MO_108 (at_31 (h := _) hS) rfl rfl rfl ?_
    refine fx_aload_n (i := 0) d_MO_read_32 rfl rfl ?_
    refine fx_getI d_MO_read_33 lk_MO_105 (at_31 (h := _) hS) rfl ?_
    refine fx_bipush (v := 8) d_MO_read_36 rfl ?_
    refine fx_icmp_lt (t := 93) (n := 41) d_MO_read_38 hz1 (show zR 8 by decide) (fun z3 => ?_) (fun z3 => ?_)
    · replace H := H.1 z3
      refine fx_iconst d_MO_read_93 ?_
      exact fx_end (some (.int (zI (-1)))) ⟨⟨_, rfl, rfl⟩, d_MO_read_94⟩ (Nat.le_refl _) (Nat.le_refl _) rfl H
    · replace H := H.2 z3
      refine fx_aload_n (i := 0) d_MO_read_41 rfl rfl ?_
      refine fx_getR (q := 33) d_MO_read_42 lk_MO_20 (at_31 (h := _) hS) rfl rfl ?_
      refine fx_iconst d_MO_read_45 ?_
      refine fx_iald d_MO_read_46 (at_33 (h := _) hS) (by decide) (by decide) (by decide) ?_
      refine fx_aload_n (i := 0) d_MO_read_47 rfl rfl ?_
      refine fx_getR (q := 33) d_MO_read_48 lk_MO_20 (at_31 (h := _) hS) rfl rfl ?_
      refine fx_iconst d_MO_read_51 ?_
      refine fx_iald d_MO_read_52 (at_33 (h := _) hS) (by decide) (by decide) (by decide) ?_
      obtain ⟨hz4, H⟩ := H
      obtain ⟨hz5, H⟩ := H
      refine fx_icmp_ne (t := 93) (n := 56) d_MO_read_53 hz4 hz5 (fun z6 => ?_) (fun z6 => ?_)
      · replace H := H.1 z6
        refine fx_iconst d_MO_read_93 ?_
        exact fx_end (some (.int (zI (-1)))) ⟨⟨_, rfl, rfl⟩, d_MO_read_94⟩ (Nat.le_refl _) (Nat.le_refl _) rfl H
      · replace H := H.2 z6
        refine fx_aload_n (i := 0) d_MO_read_56 rfl rfl ?_
        refine fx_getR (q := 33) d_MO_read_57 lk_MO_20 (at_31 (h := _) hS) rfl rfl ?_
        refine fx_iconst d_MO_read_60 ?_
        refine fx_iald d_MO_read_61 (at_33 (h := _) hS) (by decide) (by decide) (by decide) ?_
        refine fx_bipush (v := 73) d_MO_read_62 rfl ?_
        refine fx_icmp_eq (t := 78) (n := 67) d_MO_read_64 hz4 (show zR 73 by decide) (fun z7 => ?_) (fun z7 => ?_)
        · replace H := H.1 z7
          refine fx_aload_n (i := 0) d_MO_read_78 rfl rfl ?_
          refine fx_ldc2 (v := 2) d_MO_read_79 (fx_in 1164 (by decide +kernel) rfl) ?_
          refine fx_iconst d_MO_read_82 ?_
          refine fx_callV (M' := M_MO_number) (B' := (0, 0)) (vs := [.long (zL 2), .int (zI 2)]) (rest := []) (c1 := 0) (s1 := 0) (n := 86) d_MO_read_83 ca_MO_read_243 (at_31 (h := _) hS) rfl rfl rfl ⟨by decide, by decide⟩ (Nat.le_of_ble_eq_true rfl) (Or.inl rfl) (fx_Mt.mono H fun v h8 hv => ?_)
          obtain ⟨r10, rfl, e9, H⟩ := hv
          have hS8 := e9.trans hS
          show fx_V l M_MO_read (0, 0) Q 0 0 86 [some (.ref 31), none, none] [.long (zL r10)] h8
          refine fx_ldc2 (v := 42) d_MO_read_86 (fx_in 1170 (by decide +kernel) rfl) ?_
          obtain ⟨hz11, H⟩ := H
          refine fx_lcmp d_MO_read_89 hz11 (show zRL 42 by decide) ?_
          refine fx_if_eq (t := 95) (n := 93) d_MO_read_90 (zC_R _ _) (fun z12 => ?_) (fun z12 => ?_)
          · replace H := H.1 z12
            refine fx_aload_n (i := 0) d_MO_read_95 rfl rfl ?_
            refine fx_callV (M' := M_MO_takeTags) (B' := (0, 0)) (vs := []) (rest := []) (c1 := 0) (s1 := 0) (n := 99) d_MO_read_96 ca_MO_read_327 (at_31 (h := _) hS8) rfl rfl rfl ⟨by decide, by decide⟩ (Nat.le_of_ble_eq_true rfl) (Or.inl rfl) (fx_Mt.mono H fun v h13 hv => ?_)
            obtain ⟨r15, rfl, e14, H⟩ := hv
            have hS13 := e14.trans hS8
            show fx_V l M_MO_read (0, 0) Q 0 0 99 [some (.ref 31), none, none] [.int (zI r15)] h13
            obtain ⟨hz16, H⟩ := H
            refine fx_if_eq (t := 109) (n := 102) d_MO_read_99 hz16 (fun z17 => ?_) (fun z17 => ?_)
            · replace H := H.1 z17
              refine fx_bipush (v := -2) d_MO_read_109 rfl ?_
              exact fx_end (some (.int (zI (-2)))) ⟨⟨_, rfl, rfl⟩, d_MO_read_111⟩ (Nat.le_refl _) (Nat.le_refl _) rfl H
            · replace H := H.2 z17
              refine fx_aload_n (i := 0) d_MO_read_102 rfl rfl ?_
              refine fx_callV (M' := M_MO_fit) (B' := (0, 0)) (vs := []) (rest := []) (c1 := 0) (s1 := 0) (n := 106) d_MO_read_103 ca_MO_read_331 (at_31 (h := _) hS13) rfl rfl rfl ⟨by decide, by decide⟩ (Nat.le_of_ble_eq_true rfl) (Or.inl rfl) (fx_Mt.mono H fun v h18 hv => ?_)
              obtain ⟨r20, rfl, e19, H⟩ := hv
              have hS18 := e19.trans hS13
              show fx_V l M_MO_read (0, 0) Q 0 0 106 [some (.ref 31), none, none] [.int (zI r20)] h18
              obtain ⟨hz21, H⟩ := H
              refine fx_if_ne (t := 112) (n := 109) d_MO_read_106 hz21 (fun z22 => ?_) (fun z22 => ?_)
              · replace H := H.1 z22
                refine fx_aload_n (i := 0) d_MO_read_112 rfl rfl ?_
                refine fx_getI d_MO_read_113 lk_MO_216 (at_31 (h := _) hS18) rfl ?_
                refine fx_aload_n (i := 0) d_MO_read_116 rfl rfl ?_
                refine fx_getI d_MO_read_117 lk_MO_219 (at_31 (h := _) hS18) rfl ?_
                refine fx_iadd d_MO_read_120 ?_
                refine fx_iconst d_MO_read_121 ?_
                refine fx_isub d_MO_read_122 ?_
                refine fx_aload_n (i := 0) d_MO_read_123 rfl rfl ?_
                refine fx_getI d_MO_read_124 lk_MO_219 (at_31 (h := _) hS18) rfl ?_
                obtain ⟨hn23, H⟩ := H
                obtain ⟨hz24, H⟩ := H
                obtain ⟨hn25, H⟩ := H
                obtain ⟨hz26, H⟩ := H
                refine fx_idiv d_MO_read_127 hn23 hz24 hn25 hz26 ?_
                refine fx_istore_n (i := 1) (ls2 := [some (.ref 31), some (.int (zI ((((h18.2.1 31 16) + (h18.2.1 31 13)) - 1) / (h18.2.1 31 13)))), none]) d_MO_read_128 rfl (by decide) rfl ?_
                refine fx_iconst d_MO_read_129 ?_
                refine fx_istore_n (i := 2) (ls2 := [some (.ref 31), some (.int (zI ((((h18.2.1 31 16) + (h18.2.1 31 13)) - 1) / (h18.2.1 31 13)))), some (.int (zI 0))]) d_MO_read_130 rfl (by decide) rfl ?_
                exact H
              · replace H := H.2 z22
                refine fx_bipush (v := -2) d_MO_read_109 rfl ?_
                exact fx_end (some (.int (zI (-2)))) ⟨⟨_, rfl, rfl⟩, d_MO_read_111⟩ (Nat.le_refl _) (Nat.le_refl _) rfl H
          · replace H := H.2 z12
            refine fx_iconst d_MO_read_93 ?_
            exact fx_end (some (.int (zI (-1)))) ⟨⟨_, rfl, rfl⟩, d_MO_read_94⟩ (Nat.le_refl _) (Nat.le_refl _) rfl H
        · replace H := H.2 z7
          refine fx_aload_n (i := 0) d_MO_read_67 rfl rfl ?_
          refine fx_getR (q := 33) d_MO_read_68 lk_MO_20 (at_31 (h := _) hS) rfl rfl ?_
          refine fx_iconst d_MO_read_71 ?_
          refine fx_iald d_MO_read_72 (at_33 (h := _) hS) (by decide) (by decide) (by decide) ?_
          refine fx_bipush (v := 77) d_MO_read_73 rfl ?_
          refine fx_icmp_ne (t := 93) (n := 78) d_MO_read_75 hz4 (show zR 77 by decide) (fun z27 => ?_) (fun z27 => ?_)
          · replace H := H.1 z27
            refine fx_iconst d_MO_read_93 ?_
            exact fx_end (some (.int (zI (-1)))) ⟨⟨_, rfl, rfl⟩, d_MO_read_94⟩ (Nat.le_refl _) (Nat.le_refl _) rfl H
          · replace H := H.2 z27
            refine fx_aload_n (i := 0) d_MO_read_78 rfl rfl ?_
            refine fx_ldc2 (v := 2) d_MO_read_79 (fx_in 1164 (by decide +kernel) rfl) ?_
            refine fx_iconst d_MO_read_82 ?_
            refine fx_callV (M' := M_MO_number) (B' := (0, 0)) (vs := [.long (zL 2), .int (zI 2)]) (rest := []) (c1 := 0) (s1 := 0) (n := 86) d_MO_read_83 ca_MO_read_243 (at_31 (h := _) hS) rfl rfl rfl ⟨by decide, by decide⟩ (Nat.le_of_ble_eq_true rfl) (Or.inl rfl) (fx_Mt.mono H fun v h28 hv => ?_)
            obtain ⟨r30, rfl, e29, H⟩ := hv
            have hS28 := e29.trans hS
            show fx_V l M_MO_read (0, 0) Q 0 0 86 [some (.ref 31), none, none] [.long (zL r30)] h28
            refine fx_ldc2 (v := 42) d_MO_read_86 (fx_in 1170 (by decide +kernel) rfl) ?_
            obtain ⟨hz31, H⟩ := H
            refine fx_lcmp d_MO_read_89 hz31 (show zRL 42 by decide) ?_
            refine fx_if_eq (t := 95) (n := 93) d_MO_read_90 (zC_R _ _) (fun z32 => ?_) (fun z32 => ?_)
            · replace H := H.1 z32
              refine fx_aload_n (i := 0) d_MO_read_95 rfl rfl ?_
              refine fx_callV (M' := M_MO_takeTags) (B' := (0, 0)) (vs := []) (rest := []) (c1 := 0) (s1 := 0) (n := 99) d_MO_read_96 ca_MO_read_327 (at_31 (h := _) hS28) rfl rfl rfl ⟨by decide, by decide⟩ (Nat.le_of_ble_eq_true rfl) (Or.inl rfl) (fx_Mt.mono H fun v h33 hv => ?_)
              obtain ⟨r35, rfl, e34, H⟩ := hv
              have hS33 := e34.trans hS28
              show fx_V l M_MO_read (0, 0) Q 0 0 99 [some (.ref 31), none, none] [.int (zI r35)] h33
              obtain ⟨hz36, H⟩ := H
              refine fx_if_eq (t := 109) (n := 102) d_MO_read_99 hz36 (fun z37 => ?_) (fun z37 => ?_)
              · replace H := H.1 z37
                refine fx_bipush (v := -2) d_MO_read_109 rfl ?_
                exact fx_end (some (.int (zI (-2)))) ⟨⟨_, rfl, rfl⟩, d_MO_read_111⟩ (Nat.le_refl _) (Nat.le_refl _) rfl H
              · replace H := H.2 z37
                refine fx_aload_n (i := 0) d_MO_read_102 rfl rfl ?_
                refine fx_callV (M' := M_MO_fit) (B' := (0, 0)) (vs := []) (rest := []) (c1 := 0) (s1 := 0) (n := 106) d_MO_read_103 ca_MO_read_331 (at_31 (h := _) hS33) rfl rfl rfl ⟨by decide, by decide⟩ (Nat.le_of_ble_eq_true rfl) (Or.inl rfl) (fx_Mt.mono H fun v h38 hv => ?_)
                obtain ⟨r40, rfl, e39, H⟩ := hv
                have hS38 := e39.trans hS33
                show fx_V l M_MO_read (0, 0) Q 0 0 106 [some (.ref 31), none, none] [.int (zI r40)] h38
                obtain ⟨hz41, H⟩ := H
                refine fx_if_ne (t := 112) (n := 109) d_MO_read_106 hz41 (fun z42 => ?_) (fun z42 => ?_)
                · replace H := H.1 z42
                  refine fx_aload_n (i := 0) d_MO_read_112 rfl rfl ?_
                  refine fx_getI d_MO_read_113 lk_MO_216 (at_31 (h := _) hS38) rfl ?_
                  refine fx_aload_n (i := 0) d_MO_read_116 rfl rfl ?_
                  refine fx_getI d_MO_read_117 lk_MO_219 (at_31 (h := _) hS38) rfl ?_
                  refine fx_iadd d_MO_read_120 ?_
                  refine fx_iconst d_MO_read_121 ?_
                  refine fx_isub d_MO_read_122 ?_
                  refine fx_aload_n (i := 0) d_MO_read_123 rfl rfl ?_
                  refine fx_getI d_MO_read_124 lk_MO_219 (at_31 (h := _) hS38) rfl ?_
                  obtain ⟨hn43, H⟩ := H
                  obtain ⟨hz44, H⟩ := H
                  obtain ⟨hn45, H⟩ := H
                  obtain ⟨hz46, H⟩ := H
                  refine fx_idiv d_MO_read_127 hn43 hz44 hn45 hz46 ?_
                  refine fx_istore_n (i := 1) (ls2 := [some (.ref 31), some (.int (zI ((((h38.2.1 31 16) + (h38.2.1 31 13)) - 1) / (h38.2.1 31 13)))), none]) d_MO_read_128 rfl (by decide) rfl ?_
                  refine fx_iconst d_MO_read_129 ?_
                  refine fx_istore_n (i := 2) (ls2 := [some (.ref 31), some (.int (zI ((((h38.2.1 31 16) + (h38.2.1 31 13)) - 1) / (h38.2.1 31 13)))), some (.int (zI 0))]) d_MO_read_130 rfl (by decide) rfl ?_
                  exact H
                · replace H := H.2 z42
                  refine fx_bipush (v := -2) d_MO_read_109 rfl ?_
                  exact fx_end (some (.int (zI (-2)))) ⟨⟨_, rfl, rfl⟩, d_MO_read_111⟩ (Nat.le_refl _) (Nat.le_refl _) rfl H
            · replace H := H.2 z32
              refine fx_iconst d_MO_read_93 ?_
              exact fx_end (some (.int (zI (-1)))) ⟨⟨_, rfl, rfl⟩, d_MO_read_94⟩ (Nat.le_refl _) (Nat.le_refl _) rfl H
  · replace H := H.2 z2
    refine fx_aload_n (i := 0) d_MO_read_13 rfl rfl ?_
    refine fx_getR (q := 33) d_MO_read_14 lk_MO_20 (at_31 (h := _) hS) rfl rfl ?_
    refine fx_iconst d_MO_read_17 ?_
    refine fx_iald d_MO_read_18 (at_33 (h := _) hS) (by decide) (by decide) (by decide) ?_
    refine fx_bipush (v := 77) d_MO_read_19 rfl ?_
    obtain ⟨hz47, H⟩ := H
    refine fx_icmp_ne (t := 28) (n := 24) d_MO_read_21 hz47 (show zR 77 by decide) (fun z48 => ?_) (fun z48 => ?_)
    · replace H := H.1 z48
      refine fx_iconst d_MO_read_28 ?_
      refine fx_putI d_MO_read_29 lk_MO_108 (at_31 (h := _) hS) rfl rfl rfl ?_
      refine fx_aload_n (i := 0) d_MO_read_32 rfl rfl ?_
      refine fx_getI d_MO_read_33 lk_MO_105 (at_31 (h := _) hS) rfl ?_
      refine fx_bipush (v := 8) d_MO_read_36 rfl ?_
      refine fx_icmp_lt (t := 93) (n := 41) d_MO_read_38 hz1 (show zR 8 by decide) (fun z49 => ?_) (fun z49 => ?_)
      · replace H := H.1 z49
        refine fx_iconst d_MO_read_93 ?_
        exact fx_end (some (.int (zI (-1)))) ⟨⟨_, rfl, rfl⟩, d_MO_read_94⟩ (Nat.le_refl _) (Nat.le_refl _) rfl H
      · replace H := H.2 z49
        refine fx_aload_n (i := 0) d_MO_read_41 rfl rfl ?_
        refine fx_getR (q := 33) d_MO_read_42 lk_MO_20 (at_31 (h := _) hS) rfl rfl ?_
        refine fx_iconst d_MO_read_45 ?_
        refine fx_iald d_MO_read_46 (at_33 (h := _) hS) (by decide) (by decide) (by decide) ?_
        refine fx_aload_n (i := 0) d_MO_read_47 rfl rfl ?_
        refine fx_getR (q := 33) d_MO_read_48 lk_MO_20 (at_31 (h := _) hS) rfl rfl ?_
        refine fx_iconst d_MO_read_51 ?_
        refine fx_iald d_MO_read_52 (at_33 (h := _) hS) (by decide) (by decide) (by decide) ?_
        obtain ⟨hz50, H⟩ := H
        refine fx_icmp_ne (t := 93) (n := 56) d_MO_read_53 hz47 hz50 (fun z51 => ?_) (fun z51 => ?_)
        · replace H := H.1 z51
          refine fx_iconst d_MO_read_93 ?_
          exact fx_end (some (.int (zI (-1)))) ⟨⟨_, rfl, rfl⟩, d_MO_read_94⟩ (Nat.le_refl _) (Nat.le_refl _) rfl H
        · replace H := H.2 z51
          refine fx_aload_n (i := 0) d_MO_read_56 rfl rfl ?_
          refine fx_getR (q := 33) d_MO_read_57 lk_MO_20 (at_31 (h := _) hS) rfl rfl ?_
          refine fx_iconst d_MO_read_60 ?_
          refine fx_iald d_MO_read_61 (at_33 (h := _) hS) (by decide) (by decide) (by decide) ?_
          refine fx_bipush (v := 73) d_MO_read_62 rfl ?_
          refine fx_icmp_eq (t := 78) (n := 67) d_MO_read_64 hz47 (show zR 73 by decide) (fun z52 => ?_) (fun z52 => ?_)
          · replace H := H.1 z52
            refine fx_aload_n (i := 0) d_MO_read_78 rfl rfl ?_
            refine fx_ldc2 (v := 2) d_MO_read_79 (fx_in 1164 (by decide +kernel) rfl) ?_
            refine fx_iconst d_MO_read_82 ?_
            refine fx_callV (M' := M_MO_number) (B' := (0, 0)) (vs := [.long (zL 2), .int (zI 2)]) (rest := []) (c1 := 0) (s1 := 0) (n := 86) d_MO_read_83 ca_MO_read_243 (at_31 (h := _) hS) rfl rfl rfl ⟨by decide, by decide⟩ (Nat.le_of_ble_eq_true rfl) (Or.inl rfl) (fx_Mt.mono H fun v h53 hv => ?_)
            obtain ⟨r55, rfl, e54, H⟩ := hv
            have hS53 := e54.trans hS
            show fx_V l M_MO_read (0, 0) Q 0 0 86 [some (.ref 31), none, none] [.long (zL r55)] h53
            refine fx_ldc2 (v := 42) d_MO_read_86 (fx_in 1170 (by decide +kernel) rfl) ?_
            obtain ⟨hz56, H⟩ := H
            refine fx_lcmp d_MO_read_89 hz56 (show zRL 42 by decide) ?_
            refine fx_if_eq (t := 95) (n := 93) d_MO_read_90 (zC_R _ _) (fun z57 => ?_) (fun z57 => ?_)
            · replace H := H.1 z57
              refine fx_aload_n (i := 0) d_MO_read_95 rfl rfl ?_
              refine fx_callV (M' := M_MO_takeTags) (B' := (0, 0)) (vs := []) (rest := []) (c1 := 0) (s1 := 0) (n := 99) d_MO_read_96 ca_MO_read_327 (at_31 (h := _) hS53) rfl rfl rfl ⟨by decide, by decide⟩ (Nat.le_of_ble_eq_true rfl) (Or.inl rfl) (fx_Mt.mono H fun v h58 hv => ?_)
              obtain ⟨r60, rfl, e59, H⟩ := hv
              have hS58 := e59.trans hS53
              show fx_V l M_MO_read (0, 0) Q 0 0 99 [some (.ref 31), none, none] [.int (zI r60)] h58
              obtain ⟨hz61, H⟩ := H
              refine fx_if_eq (t := 109) (n := 102) d_MO_read_99 hz61 (fun z62 => ?_) (fun z62 => ?_)
              · replace H := H.1 z62
                refine fx_bipush (v := -2) d_MO_read_109 rfl ?_
                exact fx_end (some (.int (zI (-2)))) ⟨⟨_, rfl, rfl⟩, d_MO_read_111⟩ (Nat.le_refl _) (Nat.le_refl _) rfl H
              · replace H := H.2 z62
                refine fx_aload_n (i := 0) d_MO_read_102 rfl rfl ?_
                refine fx_callV (M' := M_MO_fit) (B' := (0, 0)) (vs := []) (rest := []) (c1 := 0) (s1 := 0) (n := 106) d_MO_read_103 ca_MO_read_331 (at_31 (h := _) hS58) rfl rfl rfl ⟨by decide, by decide⟩ (Nat.le_of_ble_eq_true rfl) (Or.inl rfl) (fx_Mt.mono H fun v h63 hv => ?_)
                obtain ⟨r65, rfl, e64, H⟩ := hv
                have hS63 := e64.trans hS58
                show fx_V l M_MO_read (0, 0) Q 0 0 106 [some (.ref 31), none, none] [.int (zI r65)] h63
                obtain ⟨hz66, H⟩ := H
                refine fx_if_ne (t := 112) (n := 109) d_MO_read_106 hz66 (fun z67 => ?_) (fun z67 => ?_)
                · replace H := H.1 z67
                  refine fx_aload_n (i := 0) d_MO_read_112 rfl rfl ?_
                  refine fx_getI d_MO_read_113 lk_MO_216 (at_31 (h := _) hS63) rfl ?_
                  refine fx_aload_n (i := 0) d_MO_read_116 rfl rfl ?_
                  refine fx_getI d_MO_read_117 lk_MO_219 (at_31 (h := _) hS63) rfl ?_
                  refine fx_iadd d_MO_read_120 ?_
                  refine fx_iconst d_MO_read_121 ?_
                  refine fx_isub d_MO_read_122 ?_
                  refine fx_aload_n (i := 0) d_MO_read_123 rfl rfl ?_
                  refine fx_getI d_MO_read_124 lk_MO_219 (at_31 (h := _) hS63) rfl ?_
                  obtain ⟨hn68, H⟩ := H
                  obtain ⟨hz69, H⟩ := H
                  obtain ⟨hn70, H⟩ := H
                  obtain ⟨hz71, H⟩ := H
                  refine fx_idiv d_MO_read_127 hn68 hz69 hn70 hz71 ?_
                  refine fx_istore_n (i := 1) (ls2 := [some (.ref 31), some (.int (zI ((((h63.2.1 31 16) + (h63.2.1 31 13)) - 1) / (h63.2.1 31 13)))), none]) d_MO_read_128 rfl (by decide) rfl ?_
                  refine fx_iconst d_MO_read_129 ?_
                  refine fx_istore_n (i := 2) (ls2 := [some (.ref 31), some (.int (zI ((((h63.2.1 31 16) + (h63.2.1 31 13)) - 1) / (h63.2.1 31 13)))), some (.int (zI 0))]) d_MO_read_130 rfl (by decide) rfl ?_
                  exact H
                · replace H := H.2 z67
                  refine fx_bipush (v := -2) d_MO_read_109 rfl ?_
                  exact fx_end (some (.int (zI (-2)))) ⟨⟨_, rfl, rfl⟩, d_MO_read_111⟩ (Nat.le_refl _) (Nat.le_refl _) rfl H
            · replace H := H.2 z57
              refine fx_iconst d_MO_read_93 ?_
              exact fx_end (some (.int (zI (-1)))) ⟨⟨_, rfl, rfl⟩, d_MO_read_94⟩ (Nat.le_refl _) (Nat.le_refl _) rfl H
          · replace H := H.2 z52
            refine fx_aload_n (i := 0) d_MO_read_67 rfl rfl ?_
            refine fx_getR (q := 33) d_MO_read_68 lk_MO_20 (at_31 (h := _) hS) rfl rfl ?_
            refine fx_iconst d_MO_read_71 ?_
            refine fx_iald d_MO_read_72 (at_33 (h := _) hS) (by decide) (by decide) (by decide) ?_
            refine fx_bipush (v := 77) d_MO_read_73 rfl ?_
            refine fx_icmp_ne (t := 93) (n := 78) d_MO_read_75 hz47 (show zR 77 by decide) (fun z72 => ?_) (fun z72 => ?_)
            · replace H := H.1 z72
              refine fx_iconst d_MO_read_93 ?_
              exact fx_end (some (.int (zI (-1)))) ⟨⟨_, rfl, rfl⟩, d_MO_read_94⟩ (Nat.le_refl _) (Nat.le_refl _) rfl H
            · replace H := H.2 z72
              refine fx_aload_n (i := 0) d_MO_read_78 rfl rfl ?_
              refine fx_ldc2 (v := 2) d_MO_read_79 (fx_in 1164 (by decide +kernel) rfl) ?_
              refine fx_iconst d_MO_read_82 ?_
              refine fx_callV (M' := M_MO_number) (B' := (0, 0)) (vs := [.long (zL 2), .int (zI 2)]) (rest := []) (c1 := 0) (s1 := 0) (n := 86) d_MO_read_83 ca_MO_read_243 (at_31 (h := _) hS) rfl rfl rfl ⟨by decide, by decide⟩ (Nat.le_of_ble_eq_true rfl) (Or.inl rfl) (fx_Mt.mono H fun v h73 hv => ?_)
              obtain ⟨r75, rfl, e74, H⟩ := hv
              have hS73 := e74.trans hS
              show fx_V l M_MO_read (0, 0) Q 0 0 86 [some (.ref 31), none, none] [.long (zL r75)] h73
              refine fx_ldc2 (v := 42) d_MO_read_86 (fx_in 1170 (by decide +kernel) rfl) ?_
              obtain ⟨hz76, H⟩ := H
              refine fx_lcmp d_MO_read_89 hz76 (show zRL 42 by decide) ?_
              refine fx_if_eq (t := 95) (n := 93) d_MO_read_90 (zC_R _ _) (fun z77 => ?_) (fun z77 => ?_)
              · replace H := H.1 z77
                refine fx_aload_n (i := 0) d_MO_read_95 rfl rfl ?_
                refine fx_callV (M' := M_MO_takeTags) (B' := (0, 0)) (vs := []) (rest := []) (c1 := 0) (s1 := 0) (n := 99) d_MO_read_96 ca_MO_read_327 (at_31 (h := _) hS73) rfl rfl rfl ⟨by decide, by decide⟩ (Nat.le_of_ble_eq_true rfl) (Or.inl rfl) (fx_Mt.mono H fun v h78 hv => ?_)
                obtain ⟨r80, rfl, e79, H⟩ := hv
                have hS78 := e79.trans hS73
                show fx_V l M_MO_read (0, 0) Q 0 0 99 [some (.ref 31), none, none] [.int (zI r80)] h78
                obtain ⟨hz81, H⟩ := H
                refine fx_if_eq (t := 109) (n := 102) d_MO_read_99 hz81 (fun z82 => ?_) (fun z82 => ?_)
                · replace H := H.1 z82
                  refine fx_bipush (v := -2) d_MO_read_109 rfl ?_
                  exact fx_end (some (.int (zI (-2)))) ⟨⟨_, rfl, rfl⟩, d_MO_read_111⟩ (Nat.le_refl _) (Nat.le_refl _) rfl H
                · replace H := H.2 z82
                  refine fx_aload_n (i := 0) d_MO_read_102 rfl rfl ?_
                  refine fx_callV (M' := M_MO_fit) (B' := (0, 0)) (vs := []) (rest := []) (c1 := 0) (s1 := 0) (n := 106) d_MO_read_103 ca_MO_read_331 (at_31 (h := _) hS78) rfl rfl rfl ⟨by decide, by decide⟩ (Nat.le_of_ble_eq_true rfl) (Or.inl rfl) (fx_Mt.mono H fun v h83 hv => ?_)
                  obtain ⟨r85, rfl, e84, H⟩ := hv
                  have hS83 := e84.trans hS78
                  show fx_V l M_MO_read (0, 0) Q 0 0 106 [some (.ref 31), none, none] [.int (zI r85)] h83
                  obtain ⟨hz86, H⟩ := H
                  refine fx_if_ne (t := 112) (n := 109) d_MO_read_106 hz86 (fun z87 => ?_) (fun z87 => ?_)
                  · replace H := H.1 z87
                    refine fx_aload_n (i := 0) d_MO_read_112 rfl rfl ?_
                    refine fx_getI d_MO_read_113 lk_MO_216 (at_31 (h := _) hS83) rfl ?_
                    refine fx_aload_n (i := 0) d_MO_read_116 rfl rfl ?_
                    refine fx_getI d_MO_read_117 lk_MO_219 (at_31 (h := _) hS83) rfl ?_
                    refine fx_iadd d_MO_read_120 ?_
                    refine fx_iconst d_MO_read_121 ?_
                    refine fx_isub d_MO_read_122 ?_
                    refine fx_aload_n (i := 0) d_MO_read_123 rfl rfl ?_
                    refine fx_getI d_MO_read_124 lk_MO_219 (at_31 (h := _) hS83) rfl ?_
                    obtain ⟨hn88, H⟩ := H
                    obtain ⟨hz89, H⟩ := H
                    obtain ⟨hn90, H⟩ := H
                    obtain ⟨hz91, H⟩ := H
                    refine fx_idiv d_MO_read_127 hn88 hz89 hn90 hz91 ?_
                    refine fx_istore_n (i := 1) (ls2 := [some (.ref 31), some (.int (zI ((((h83.2.1 31 16) + (h83.2.1 31 13)) - 1) / (h83.2.1 31 13)))), none]) d_MO_read_128 rfl (by decide) rfl ?_
                    refine fx_iconst d_MO_read_129 ?_
                    refine fx_istore_n (i := 2) (ls2 := [some (.ref 31), some (.int (zI ((((h83.2.1 31 16) + (h83.2.1 31 13)) - 1) / (h83.2.1 31 13)))), some (.int (zI 0))]) d_MO_read_130 rfl (by decide) rfl ?_
                    exact H
                  · replace H := H.2 z87
                    refine fx_bipush (v := -2) d_MO_read_109 rfl ?_
                    exact fx_end (some (.int (zI (-2)))) ⟨⟨_, rfl, rfl⟩, d_MO_read_111⟩ (Nat.le_refl _) (Nat.le_refl _) rfl H
              · replace H := H.2 z77
                refine fx_iconst d_MO_read_93 ?_
                exact fx_end (some (.int (zI (-1)))) ⟨⟨_, rfl, rfl⟩, d_MO_read_94⟩ (Nat.le_refl _) (Nat.le_refl _) rfl H
    · replace H := H.2 z48
      refine fx_iconst d_MO_read_24 ?_
      refine fx_goto (n := 29) d_MO_read_25 ?_
      refine fx_putI d_MO_read_29 lk_MO_108 (at_31 (h := _) hS) rfl rfl rfl ?_
      refine fx_aload_n (i := 0) d_MO_read_32 rfl rfl ?_
      refine fx_getI d_MO_read_33 lk_MO_105 (at_31 (h := _) hS) rfl ?_
      refine fx_bipush (v := 8) d_MO_read_36 rfl ?_
      refine fx_icmp_lt (t := 93) (n := 41) d_MO_read_38 hz1 (show zR 8 by decide) (fun z92 => ?_) (fun z92 => ?_)
      · replace H := H.1 z92
        refine fx_iconst d_MO_read_93 ?_
        exact fx_end (some (.int (zI (-1)))) ⟨⟨_, rfl, rfl⟩, d_MO_read_94⟩ (Nat.le_refl _) (Nat.le_refl _) rfl H
      · replace H := H.2 z92
        refine fx_aload_n (i := 0) d_MO_read_41 rfl rfl ?_
        refine fx_getR (q := 33) d_MO_read_42 lk_MO_20 (at_31 (h := _) hS) rfl rfl ?_
        refine fx_iconst d_MO_read_45 ?_
        refine fx_iald d_MO_read_46 (at_33 (h := _) hS) (by decide) (by decide) (by decide) ?_
        refine fx_aload_n (i := 0) d_MO_read_47 rfl rfl ?_
        refine fx_getR (q := 33) d_MO_read_48 lk_MO_20 (at_31 (h := _) hS) rfl rfl ?_
        refine fx_iconst d_MO_read_51 ?_
        refine fx_iald d_MO_read_52 (at_33 (h := _) hS) (by decide) (by decide) (by decide) ?_
        obtain ⟨hz93, H⟩ := H
        refine fx_icmp_ne (t := 93) (n := 56) d_MO_read_53 hz47 hz93 (fun z94 => ?_) (fun z94 => ?_)
        · replace H := H.1 z94
          refine fx_iconst d_MO_read_93 ?_
          exact fx_end (some (.int (zI (-1)))) ⟨⟨_, rfl, rfl⟩, d_MO_read_94⟩ (Nat.le_refl _) (Nat.le_refl _) rfl H
        · replace H := H.2 z94
          refine fx_aload_n (i := 0) d_MO_read_56 rfl rfl ?_
          refine fx_getR (q := 33) d_MO_read_57 lk_MO_20 (at_31 (h := _) hS) rfl rfl ?_
          refine fx_iconst d_MO_read_60 ?_
          refine fx_iald d_MO_read_61 (at_33 (h := _) hS) (by decide) (by decide) (by decide) ?_
          refine fx_bipush (v := 73) d_MO_read_62 rfl ?_
          refine fx_icmp_eq (t := 78) (n := 67) d_MO_read_64 hz47 (show zR 73 by decide) (fun z95 => ?_) (fun z95 => ?_)
          · replace H := H.1 z95
            refine fx_aload_n (i := 0) d_MO_read_78 rfl rfl ?_
            refine fx_ldc2 (v := 2) d_MO_read_79 (fx_in 1164 (by decide +kernel) rfl) ?_
            refine fx_iconst d_MO_read_82 ?_
            refine fx_callV (M' := M_MO_number) (B' := (0, 0)) (vs := [.long (zL 2), .int (zI 2)]) (rest := []) (c1 := 0) (s1 := 0) (n := 86) d_MO_read_83 ca_MO_read_243 (at_31 (h := _) hS) rfl rfl rfl ⟨by decide, by decide⟩ (Nat.le_of_ble_eq_true rfl) (Or.inl rfl) (fx_Mt.mono H fun v h96 hv => ?_)
            obtain ⟨r98, rfl, e97, H⟩ := hv
            have hS96 := e97.trans hS
            show fx_V l M_MO_read (0, 0) Q 0 0 86 [some (.ref 31), none, none] [.long (zL r98)] h96
            refine fx_ldc2 (v := 42) d_MO_read_86 (fx_in 1170 (by decide +kernel) rfl) ?_
            obtain ⟨hz99, H⟩ := H
            refine fx_lcmp d_MO_read_89 hz99 (show zRL 42 by decide) ?_
            refine fx_if_eq (t := 95) (n := 93) d_MO_read_90 (zC_R _ _) (fun z100 => ?_) (fun z100 => ?_)
            · replace H := H.1 z100
              refine fx_aload_n (i := 0) d_MO_read_95 rfl rfl ?_
              refine fx_callV (M' := M_MO_takeTags) (B' := (0, 0)) (vs := []) (rest := []) (c1 := 0) (s1 := 0) (n := 99) d_MO_read_96 ca_MO_read_327 (at_31 (h := _) hS96) rfl rfl rfl ⟨by decide, by decide⟩ (Nat.le_of_ble_eq_true rfl) (Or.inl rfl) (fx_Mt.mono H fun v h101 hv => ?_)
              obtain ⟨r103, rfl, e102, H⟩ := hv
              have hS101 := e102.trans hS96
              show fx_V l M_MO_read (0, 0) Q 0 0 99 [some (.ref 31), none, none] [.int (zI r103)] h101
              obtain ⟨hz104, H⟩ := H
              refine fx_if_eq (t := 109) (n := 102) d_MO_read_99 hz104 (fun z105 => ?_) (fun z105 => ?_)
              · replace H := H.1 z105
                refine fx_bipush (v := -2) d_MO_read_109 rfl ?_
                exact fx_end (some (.int (zI (-2)))) ⟨⟨_, rfl, rfl⟩, d_MO_read_111⟩ (Nat.le_refl _) (Nat.le_refl _) rfl H
              · replace H := H.2 z105
                refine fx_aload_n (i := 0) d_MO_read_102 rfl rfl ?_
                refine fx_callV (M' := M_MO_fit) (B' := (0, 0)) (vs := []) (rest := []) (c1 := 0) (s1 := 0) (n := 106) d_MO_read_103 ca_MO_read_331 (at_31 (h := _) hS101) rfl rfl rfl ⟨by decide, by decide⟩ (Nat.le_of_ble_eq_true rfl) (Or.inl rfl) (fx_Mt.mono H fun v h106 hv => ?_)
                obtain ⟨r108, rfl, e107, H⟩ := hv
                have hS106 := e107.trans hS101
                show fx_V l M_MO_read (0, 0) Q 0 0 106 [some (.ref 31), none, none] [.int (zI r108)] h106
                obtain ⟨hz109, H⟩ := H
                refine fx_if_ne (t := 112) (n := 109) d_MO_read_106 hz109 (fun z110 => ?_) (fun z110 => ?_)
                · replace H := H.1 z110
                  refine fx_aload_n (i := 0) d_MO_read_112 rfl rfl ?_
                  refine fx_getI d_MO_read_113 lk_MO_216 (at_31 (h := _) hS106) rfl ?_
                  refine fx_aload_n (i := 0) d_MO_read_116 rfl rfl ?_
                  refine fx_getI d_MO_read_117 lk_MO_219 (at_31 (h := _) hS106) rfl ?_
                  refine fx_iadd d_MO_read_120 ?_
                  refine fx_iconst d_MO_read_121 ?_
                  refine fx_isub d_MO_read_122 ?_
                  refine fx_aload_n (i := 0) d_MO_read_123 rfl rfl ?_
                  refine fx_getI d_MO_read_124 lk_MO_219 (at_31 (h := _) hS106) rfl ?_
                  obtain ⟨hn111, H⟩ := H
                  obtain ⟨hz112, H⟩ := H
                  obtain ⟨hn113, H⟩ := H
                  obtain ⟨hz114, H⟩ := H
                  refine fx_idiv d_MO_read_127 hn111 hz112 hn113 hz114 ?_
                  refine fx_istore_n (i := 1) (ls2 := [some (.ref 31), some (.int (zI ((((h106.2.1 31 16) + (h106.2.1 31 13)) - 1) / (h106.2.1 31 13)))), none]) d_MO_read_128 rfl (by decide) rfl ?_
                  refine fx_iconst d_MO_read_129 ?_
                  refine fx_istore_n (i := 2) (ls2 := [some (.ref 31), some (.int (zI ((((h106.2.1 31 16) + (h106.2.1 31 13)) - 1) / (h106.2.1 31 13)))), some (.int (zI 0))]) d_MO_read_130 rfl (by decide) rfl ?_
                  exact H
                · replace H := H.2 z110
                  refine fx_bipush (v := -2) d_MO_read_109 rfl ?_
                  exact fx_end (some (.int (zI (-2)))) ⟨⟨_, rfl, rfl⟩, d_MO_read_111⟩ (Nat.le_refl _) (Nat.le_refl _) rfl H
            · replace H := H.2 z100
              refine fx_iconst d_MO_read_93 ?_
              exact fx_end (some (.int (zI (-1)))) ⟨⟨_, rfl, rfl⟩, d_MO_read_94⟩ (Nat.le_refl _) (Nat.le_refl _) rfl H
          · replace H := H.2 z95
            refine fx_aload_n (i := 0) d_MO_read_67 rfl rfl ?_
            refine fx_getR (q := 33) d_MO_read_68 lk_MO_20 (at_31 (h := _) hS) rfl rfl ?_
            refine fx_iconst d_MO_read_71 ?_
            refine fx_iald d_MO_read_72 (at_33 (h := _) hS) (by decide) (by decide) (by decide) ?_
            refine fx_bipush (v := 77) d_MO_read_73 rfl ?_
            refine fx_icmp_ne (t := 93) (n := 78) d_MO_read_75 hz47 (show zR 77 by decide) (fun z115 => ?_) (fun z115 => ?_)
            · replace H := H.1 z115
              refine fx_iconst d_MO_read_93 ?_
              exact fx_end (some (.int (zI (-1)))) ⟨⟨_, rfl, rfl⟩, d_MO_read_94⟩ (Nat.le_refl _) (Nat.le_refl _) rfl H
            · replace H := H.2 z115
              refine fx_aload_n (i := 0) d_MO_read_78 rfl rfl ?_
              refine fx_ldc2 (v := 2) d_MO_read_79 (fx_in 1164 (by decide +kernel) rfl) ?_
              refine fx_iconst d_MO_read_82 ?_
              refine fx_callV (M' := M_MO_number) (B' := (0, 0)) (vs := [.long (zL 2), .int (zI 2)]) (rest := []) (c1 := 0) (s1 := 0) (n := 86) d_MO_read_83 ca_MO_read_243 (at_31 (h := _) hS) rfl rfl rfl ⟨by decide, by decide⟩ (Nat.le_of_ble_eq_true rfl) (Or.inl rfl) (fx_Mt.mono H fun v h116 hv => ?_)
              obtain ⟨r118, rfl, e117, H⟩ := hv
              have hS116 := e117.trans hS
              show fx_V l M_MO_read (0, 0) Q 0 0 86 [some (.ref 31), none, none] [.long (zL r118)] h116
              refine fx_ldc2 (v := 42) d_MO_read_86 (fx_in 1170 (by decide +kernel) rfl) ?_
              obtain ⟨hz119, H⟩ := H
              refine fx_lcmp d_MO_read_89 hz119 (show zRL 42 by decide) ?_
              refine fx_if_eq (t := 95) (n := 93) d_MO_read_90 (zC_R _ _) (fun z120 => ?_) (fun z120 => ?_)
              · replace H := H.1 z120
                refine fx_aload_n (i := 0) d_MO_read_95 rfl rfl ?_
                refine fx_callV (M' := M_MO_takeTags) (B' := (0, 0)) (vs := []) (rest := []) (c1 := 0) (s1 := 0) (n := 99) d_MO_read_96 ca_MO_read_327 (at_31 (h := _) hS116) rfl rfl rfl ⟨by decide, by decide⟩ (Nat.le_of_ble_eq_true rfl) (Or.inl rfl) (fx_Mt.mono H fun v h121 hv => ?_)
                obtain ⟨r123, rfl, e122, H⟩ := hv
                have hS121 := e122.trans hS116
                show fx_V l M_MO_read (0, 0) Q 0 0 99 [some (.ref 31), none, none] [.int (zI r123)] h121
                obtain ⟨hz124, H⟩ := H
                refine fx_if_eq (t := 109) (n := 102) d_MO_read_99 hz124 (fun z125 => ?_) (fun z125 => ?_)
                · replace H := H.1 z125
                  refine fx_bipush (v := -2) d_MO_read_109 rfl ?_
                  exact fx_end (some (.int (zI (-2)))) ⟨⟨_, rfl, rfl⟩, d_MO_read_111⟩ (Nat.le_refl _) (Nat.le_refl _) rfl H
                · replace H := H.2 z125
                  refine fx_aload_n (i := 0) d_MO_read_102 rfl rfl ?_
                  refine fx_callV (M' := M_MO_fit) (B' := (0, 0)) (vs := []) (rest := []) (c1 := 0) (s1 := 0) (n := 106) d_MO_read_103 ca_MO_read_331 (at_31 (h := _) hS121) rfl rfl rfl ⟨by decide, by decide⟩ (Nat.le_of_ble_eq_true rfl) (Or.inl rfl) (fx_Mt.mono H fun v h126 hv => ?_)
                  obtain ⟨r128, rfl, e127, H⟩ := hv
                  have hS126 := e127.trans hS121
                  show fx_V l M_MO_read (0, 0) Q 0 0 106 [some (.ref 31), none, none] [.int (zI r128)] h126
                  obtain ⟨hz129, H⟩ := H
                  refine fx_if_ne (t := 112) (n := 109) d_MO_read_106 hz129 (fun z130 => ?_) (fun z130 => ?_)
                  · replace H := H.1 z130
                    refine fx_aload_n (i := 0) d_MO_read_112 rfl rfl ?_
                    refine fx_getI d_MO_read_113 lk_MO_216 (at_31 (h := _) hS126) rfl ?_
                    refine fx_aload_n (i := 0) d_MO_read_116 rfl rfl ?_
                    refine fx_getI d_MO_read_117 lk_MO_219 (at_31 (h := _) hS126) rfl ?_
                    refine fx_iadd d_MO_read_120 ?_
                    refine fx_iconst d_MO_read_121 ?_
                    refine fx_isub d_MO_read_122 ?_
                    refine fx_aload_n (i := 0) d_MO_read_123 rfl rfl ?_
                    refine fx_getI d_MO_read_124 lk_MO_219 (at_31 (h := _) hS126) rfl ?_
                    obtain ⟨hn131, H⟩ := H
                    obtain ⟨hz132, H⟩ := H
                    obtain ⟨hn133, H⟩ := H
                    obtain ⟨hz134, H⟩ := H
                    refine fx_idiv d_MO_read_127 hn131 hz132 hn133 hz134 ?_
                    refine fx_istore_n (i := 1) (ls2 := [some (.ref 31), some (.int (zI ((((h126.2.1 31 16) + (h126.2.1 31 13)) - 1) / (h126.2.1 31 13)))), none]) d_MO_read_128 rfl (by decide) rfl ?_
                    refine fx_iconst d_MO_read_129 ?_
                    refine fx_istore_n (i := 2) (ls2 := [some (.ref 31), some (.int (zI ((((h126.2.1 31 16) + (h126.2.1 31 13)) - 1) / (h126.2.1 31 13)))), some (.int (zI 0))]) d_MO_read_130 rfl (by decide) rfl ?_
                    exact H
                  · replace H := H.2 z130
                    refine fx_bipush (v := -2) d_MO_read_109 rfl ?_
                    exact fx_end (some (.int (zI (-2)))) ⟨⟨_, rfl, rfl⟩, d_MO_read_111⟩ (Nat.le_refl _) (Nat.le_refl _) rfl H
              · replace H := H.2 z120
                refine fx_iconst d_MO_read_93 ?_
                exact fx_end (some (.int (zI (-1)))) ⟨⟨_, rfl, rfl⟩, d_MO_read_94⟩ (Nat.le_refl _) (Nat.le_refl _) rfl H

set_option maxRecDepth 100000 in
set_option maxHeartbeats 4000000 in
theorem w_MO_read_131 {l : Launch} {Q : Option Value → fx_H → Prop} {h : fx_H}  {x1 : Int} {x2 : Int}  {a : Nat → Nat} {pp dd : Nat} (hS : h.1 = fx_S0 a pp dd) 
    (H : zR x2 ∧ zR x1 ∧ ((x1 ≤ x2 → (fx_V l M_MO_read (0, 0) Q 0 0 175 [some (.ref 31), some (.int (zI x1)), some (.int (zI 0))] [] (fx_uF h 31 22 0))) ∧ (¬ (x1 ≤ x2) → fx_Mt l M_MO_value (0, 0) [.ref 31, .int (zI 5), .int (zI x2)] h (fun v h4 => ∃ r6 : Int, v = some (.long (zL r6)) ∧ h4.1 = h.1 ∧ fx_Mt l M_MO_value (0, 0) [.ref 31, .int (zI 7), .int (zI x2)] h4 (fun v h7 => ∃ r9 : Int, v = some (.long (zL r9)) ∧ h7.1 = h4.1 ∧ zR (h7.2.1 31 5) ∧ zRL (r6 + r9) ∧ zRL (h7.2.1 31 5) ∧ (((zC (r6 + r9) (h7.2.1 31 5)) ≤ 0 → (fx_V l M_MO_read (0, 0) Q 0 0 131 [some (.ref 31), some (.int (zI x1)), some (.int (zI (x2 + 1)))] [] h7)) ∧ (¬ ((zC (r6 + r9) (h7.2.1 31 5)) ≤ 0) → Q (some (.int (zI (-3)))) h7))))))) :
    fx_V l M_MO_read (0, 0) Q 0 0 131 [some (.ref 31), some (.int (zI x1)), some (.int (zI x2))] [] h := by
  refine fx_iload_n (i := 2) d_MO_read_131 rfl rfl ?_
  refine fx_iload_n (i := 1) d_MO_read_132 rfl rfl ?_
  obtain ⟨hz1, H⟩ := H
  obtain ⟨hz2, H⟩ := H
  refine fx_icmp_ge (t := 168) (n := 136) d_MO_read_133 hz1 hz2 (fun z3 => ?_) (fun z3 => ?_)
  · replace H := H.1 z3
    refine fx_aload_n (i := 0) d_MO_read_168 rfl rfl ?_
    refine fx_iconst d_MO_read_169 ?_
    refine fx_putI d_MO_read_170 lk_MO_264 (at_31 (h := _) hS) rfl rfl rfl ?_
    refine fx_iconst d_MO_read_173 ?_
    refine fx_istore_n (i := 2) (ls2 := [some (.ref 31), some (.int (zI x1)), some (.int (zI 0))]) d_MO_read_174 rfl (by decide) rfl ?_
    exact H
  · replace H := H.2 z3
    refine fx_aload_n (i := 0) d_MO_read_136 rfl rfl ?_
    refine fx_iconst d_MO_read_137 ?_
    refine fx_iload_n (i := 2) d_MO_read_138 rfl rfl ?_
    refine fx_callV (M' := M_MO_value) (B' := (0, 0)) (vs := [.int (zI 5), .int (zI x2)]) (rest := []) (c1 := 0) (s1 := 0) (n := 142) d_MO_read_139 ca_MO_read_260 (at_31 (h := _) hS) rfl rfl rfl ⟨by decide, by decide⟩ (Nat.le_of_ble_eq_true rfl) (Or.inl rfl) (fx_Mt.mono H fun v h4 hv => ?_)
    obtain ⟨r6, rfl, e5, H⟩ := hv
    have hS4 := e5.trans hS
    show fx_V l M_MO_read (0, 0) Q 0 0 142 [some (.ref 31), some (.int (zI x1)), some (.int (zI x2))] [.long (zL r6)] h4
    refine fx_aload_n (i := 0) d_MO_read_142 rfl rfl ?_
    refine fx_bipush (v := 7) d_MO_read_143 rfl ?_
    refine fx_iload_n (i := 2) d_MO_read_145 rfl rfl ?_
    refine fx_callV (M' := M_MO_value) (B' := (0, 0)) (vs := [.int (zI 7), .int (zI x2)]) (rest := [.long (zL r6)]) (c1 := 0) (s1 := 0) (n := 149) d_MO_read_146 ca_MO_read_260 (at_31 (h := _) hS4) rfl rfl rfl ⟨by decide, by decide⟩ (Nat.le_of_ble_eq_true rfl) (Or.inl rfl) (fx_Mt.mono H fun v h7 hv => ?_)
    obtain ⟨r9, rfl, e8, H⟩ := hv
    have hS7 := e8.trans hS4
    show fx_V l M_MO_read (0, 0) Q 0 0 149 [some (.ref 31), some (.int (zI x1)), some (.int (zI x2))] [.long (zL r9), .long (zL r6)] h7
    refine fx_ladd d_MO_read_149 ?_
    refine fx_aload_n (i := 0) d_MO_read_150 rfl rfl ?_
    refine fx_getI d_MO_read_151 lk_MO_105 (at_31 (h := _) hS7) rfl ?_
    obtain ⟨hz10, H⟩ := H
    refine fx_i2l d_MO_read_154 hz10 ?_
    obtain ⟨hz11, H⟩ := H
    obtain ⟨hz12, H⟩ := H
    refine fx_lcmp d_MO_read_155 hz11 hz12 ?_
    refine fx_if_le (t := 162) (n := 159) d_MO_read_156 (zC_R _ _) (fun z13 => ?_) (fun z13 => ?_)
    · replace H := H.1 z13
      refine fx_iinc (v := x2 + 1) (ls2 := [some (.ref 31), some (.int (zI x1)), some (.int (zI (x2 + 1)))]) d_MO_read_162 rfl rfl (by decide) rfl ?_
      refine fx_goto (n := 131) d_MO_read_165 ?_
      exact H
    · replace H := H.2 z13
      refine fx_bipush (v := -3) d_MO_read_159 rfl ?_
      exact fx_end (some (.int (zI (-3)))) ⟨⟨_, rfl, rfl⟩, d_MO_read_161⟩ (Nat.le_refl _) (Nat.le_refl _) rfl H

set_option maxRecDepth 100000 in
set_option maxHeartbeats 4000000 in
theorem w_MO_read_175 {l : Launch} {Q : Option Value → fx_H → Prop} {h : fx_H}  {x1 : Int} {x2 : Int}  {a : Nat → Nat} {pp dd : Nat} (hS : h.1 = fx_S0 a pp dd) 
    (H : zR x2 ∧ zR x1 ∧ ((x1 ≤ x2 → zR (h.2.1 31 22) ∧ (((h.2.1 31 22) = 0 → ((h.2.1 31 14) = 0 ∨ (h.2.1 31 14) = 1) ∧ (fx_V l M_MO_read (0, 0) Q 0 0 234 [some (.ref 31), some (.int (zI x1)), some (.int (zI 0))] [] (fx_uF (fx_uF (fx_uF h 31 1 (h.2.1 31 14)) 31 2 (h.2.1 31 15)) 31 3 (h.2.1 31 16)))) ∧ (¬ ((h.2.1 31 22) = 0) → Q (some (.int (zI (-4)))) h))) ∧ (¬ (x1 ≤ x2) → zR (h.2.1 31 22) ∧ ((¬ (h.2.1 31 22) = 0 → (((h.2.1 31 22) = 0 → ((h.2.1 31 14) = 0 ∨ (h.2.1 31 14) = 1) ∧ (fx_V l M_MO_read (0, 0) Q 0 0 234 [some (.ref 31), some (.int (zI x1)), some (.int (zI 0))] [] (fx_uF (fx_uF (fx_uF h 31 1 (h.2.1 31 14)) 31 2 (h.2.1 31 15)) 31 3 (h.2.1 31 16)))) ∧ (¬ ((h.2.1 31 22) = 0) → Q (some (.int (zI (-4)))) h))) ∧ ((h.2.1 31 22) = 0 → fx_Mt l M_MO_inStrip (0, 0) [.ref 31, .int (zI x2)] h (fun v h11 => v = none ∧ h11.1 = h.1 ∧ (fx_V l M_MO_read (0, 0) Q 0 0 175 [some (.ref 31), some (.int (zI x1)), some (.int (zI (x2 + 1)))] [] h11))))))) :
    fx_V l M_MO_read (0, 0) Q 0 0 175 [some (.ref 31), some (.int (zI x1)), some (.int (zI x2))] [] h := by
  refine fx_iload_n (i := 2) d_MO_read_175 rfl rfl ?_
  refine fx_iload_n (i := 1) d_MO_read_176 rfl rfl ?_
  obtain ⟨hz1, H⟩ := H
  obtain ⟨hz2, H⟩ := H
  refine fx_icmp_ge (t := 198) (n := 180) d_MO_read_177 hz1 hz2 (fun z3 => ?_) (fun z3 => ?_)
  · replace H := H.1 z3
    refine fx_aload_n (i := 0) d_MO_read_198 rfl rfl ?_
    refine fx_getI d_MO_read_199 lk_MO_264 (at_31 (h := _) hS) rfl ?_
    obtain ⟨hz4, H⟩ := H
    refine fx_if_eq (t := 208) (n := 205) d_MO_read_202 hz4 (fun z5 => ?_) (fun z5 => ?_)
    · replace H := H.1 z5
      refine fx_aload_n (i := 0) d_MO_read_208 rfl rfl ?_
      refine fx_aload_n (i := 0) d_MO_read_209 rfl rfl ?_
      refine fx_getI d_MO_read_210 lk_MO_128 (at_31 (h := _) hS) rfl ?_
      obtain ⟨hn6, H⟩ := H
      refine fx_putI d_MO_read_213 lk_MO_97 (at_31 (h := _) hS) rfl (fx_nb hn6) (fx_fb hn6) ?_
      refine fx_aload_n (i := 0) d_MO_read_216 rfl rfl ?_
      refine fx_aload_n (i := 0) d_MO_read_217 rfl rfl ?_
      refine fx_getI d_MO_read_218 lk_MO_131 (at_31 (h := _) hS) rfl ?_
      refine fx_putI d_MO_read_221 lk_MO_7 (at_31 (h := _) hS) rfl rfl rfl ?_
      refine fx_aload_n (i := 0) d_MO_read_224 rfl rfl ?_
      refine fx_aload_n (i := 0) d_MO_read_225 rfl rfl ?_
      refine fx_getI d_MO_read_226 lk_MO_216 (at_31 (h := _) hS) rfl ?_
      refine fx_putI d_MO_read_229 lk_MO_13 (at_31 (h := _) hS) rfl rfl rfl ?_
      refine fx_iconst d_MO_read_232 ?_
      refine fx_istore_n (i := 2) (ls2 := [some (.ref 31), some (.int (zI x1)), some (.int (zI 0))]) d_MO_read_233 rfl (by decide) rfl ?_
      exact H
    · replace H := H.2 z5
      refine fx_bipush (v := -4) d_MO_read_205 rfl ?_
      exact fx_end (some (.int (zI (-4)))) ⟨⟨_, rfl, rfl⟩, d_MO_read_207⟩ (Nat.le_refl _) (Nat.le_refl _) rfl H
  · replace H := H.2 z3
    refine fx_aload_n (i := 0) d_MO_read_180 rfl rfl ?_
    refine fx_getI d_MO_read_181 lk_MO_264 (at_31 (h := _) hS) rfl ?_
    obtain ⟨hz7, H⟩ := H
    refine fx_if_ne (t := 198) (n := 187) d_MO_read_184 hz7 (fun z8 => ?_) (fun z8 => ?_)
    · replace H := H.1 z8
      refine fx_aload_n (i := 0) d_MO_read_198 rfl rfl ?_
      refine fx_getI d_MO_read_199 lk_MO_264 (at_31 (h := _) hS) rfl ?_
      refine fx_if_eq (t := 208) (n := 205) d_MO_read_202 hz7 (fun z9 => ?_) (fun z9 => ?_)
      · replace H := H.1 z9
        refine fx_aload_n (i := 0) d_MO_read_208 rfl rfl ?_
        refine fx_aload_n (i := 0) d_MO_read_209 rfl rfl ?_
        refine fx_getI d_MO_read_210 lk_MO_128 (at_31 (h := _) hS) rfl ?_
        obtain ⟨hn10, H⟩ := H
        refine fx_putI d_MO_read_213 lk_MO_97 (at_31 (h := _) hS) rfl (fx_nb hn10) (fx_fb hn10) ?_
        refine fx_aload_n (i := 0) d_MO_read_216 rfl rfl ?_
        refine fx_aload_n (i := 0) d_MO_read_217 rfl rfl ?_
        refine fx_getI d_MO_read_218 lk_MO_131 (at_31 (h := _) hS) rfl ?_
        refine fx_putI d_MO_read_221 lk_MO_7 (at_31 (h := _) hS) rfl rfl rfl ?_
        refine fx_aload_n (i := 0) d_MO_read_224 rfl rfl ?_
        refine fx_aload_n (i := 0) d_MO_read_225 rfl rfl ?_
        refine fx_getI d_MO_read_226 lk_MO_216 (at_31 (h := _) hS) rfl ?_
        refine fx_putI d_MO_read_229 lk_MO_13 (at_31 (h := _) hS) rfl rfl rfl ?_
        refine fx_iconst d_MO_read_232 ?_
        refine fx_istore_n (i := 2) (ls2 := [some (.ref 31), some (.int (zI x1)), some (.int (zI 0))]) d_MO_read_233 rfl (by decide) rfl ?_
        exact H
      · replace H := H.2 z9
        refine fx_bipush (v := -4) d_MO_read_205 rfl ?_
        exact fx_end (some (.int (zI (-4)))) ⟨⟨_, rfl, rfl⟩, d_MO_read_207⟩ (Nat.le_refl _) (Nat.le_refl _) rfl H
    · replace H := H.2 z8
      refine fx_aload_n (i := 0) d_MO_read_187 rfl rfl ?_
      refine fx_iload_n (i := 2) d_MO_read_188 rfl rfl ?_
      refine fx_callV (M' := M_MO_inStrip) (B' := (0, 0)) (vs := [.int (zI x2)]) (rest := []) (c1 := 0) (s1 := 0) (n := 192) d_MO_read_189 ca_MO_read_334 (at_31 (h := _) hS) rfl rfl rfl ⟨by decide, by decide⟩ (Nat.le_of_ble_eq_true rfl) (Or.inl rfl) (fx_Mt.mono H fun v h11 hv => ?_)
      obtain ⟨rfl, e12, H⟩ := hv
      have hS11 := e12.trans hS
      show fx_V l M_MO_read (0, 0) Q 0 0 192 [some (.ref 31), some (.int (zI x1)), some (.int (zI x2))] [] h11
      refine fx_iinc (v := x2 + 1) (ls2 := [some (.ref 31), some (.int (zI x1)), some (.int (zI (x2 + 1)))]) d_MO_read_192 rfl rfl (by decide) rfl ?_
      refine fx_goto (n := 175) d_MO_read_195 ?_
      exact H

set_option maxRecDepth 100000 in
set_option maxHeartbeats 4000000 in
theorem w_MO_read_234 {l : Launch} {Q : Option Value → fx_H → Prop} {h : fx_H}  {x1 : Int} {x2 : Int}  {a : Nat → Nat} {pp dd : Nat} (hS : h.1 = fx_S0 a pp dd) 
    (H : zR x2 ∧ ((960 ≤ x2 → fx_Mt l M_MO_note (0, 0) [.ref 31, .int (zI x1)] h (fun v h3 => v = none ∧ h3.1 = h.1 ∧ Q (some (.int (zI x1))) h3)) ∧ (¬ (960 ≤ x2) → zR ((h.2.1 31 15) * (h.2.1 31 16)) ∧ ((((h.2.1 31 15) * (h.2.1 31 16)) ≤ x2 → 0 ≤ x2 ∧ x2 < 960 ∧ (fx_V l M_MO_read (0, 0) Q 0 0 234 [some (.ref 31), some (.int (zI x1)), some (.int (zI (x2 + 1)))] [] (fx_uA h 32 (x2.toNat) 0))) ∧ (¬ (((h.2.1 31 15) * (h.2.1 31 16)) ≤ x2) → 0 ≤ x2 ∧ x2 < 960 ∧ 0 ≤ x2 ∧ x2 < 960 ∧ (fx_V l M_MO_read (0, 0) Q 0 0 234 [some (.ref 31), some (.int (zI x1)), some (.int (zI (x2 + 1)))] [] (fx_uA h 32 (x2.toNat) (h.2.2.1 34 (x2.toNat))))))))) :
    fx_V l M_MO_read (0, 0) Q 0 0 234 [some (.ref 31), some (.int (zI x1)), some (.int (zI x2))] [] h := by
  refine fx_iload_n (i := 2) d_MO_read_234 rfl rfl ?_
  refine fx_sipush (v := 960) d_MO_read_235 rfl ?_
  obtain ⟨hz1, H⟩ := H
  refine fx_icmp_ge (t := 276) (n := 241) d_MO_read_238 hz1 (show zR 960 by decide) (fun z2 => ?_) (fun z2 => ?_)
  · replace H := H.1 z2
    refine fx_aload_n (i := 0) d_MO_read_276 rfl rfl ?_
    refine fx_iload_n (i := 1) d_MO_read_277 rfl rfl ?_
    refine fx_callV (M' := M_MO_note) (B' := (0, 0)) (vs := [.int (zI x1)]) (rest := []) (c1 := 0) (s1 := 0) (n := 281) d_MO_read_278 ca_MO_read_236 (at_31 (h := _) hS) rfl rfl rfl ⟨by decide, by decide⟩ (Nat.le_of_ble_eq_true rfl) (Or.inl rfl) (fx_Mt.mono H fun v h3 hv => ?_)
    obtain ⟨rfl, e4, H⟩ := hv
    have hS3 := e4.trans hS
    show fx_V l M_MO_read (0, 0) Q 0 0 281 [some (.ref 31), some (.int (zI x1)), some (.int (zI x2))] [] h3
    refine fx_iload_n (i := 1) d_MO_read_281 rfl rfl ?_
    exact fx_end (some (.int (zI x1))) ⟨⟨_, rfl, rfl⟩, d_MO_read_282⟩ (Nat.le_refl _) (Nat.le_refl _) rfl H
  · replace H := H.2 z2
    refine fx_aload_n (i := 0) d_MO_read_241 rfl rfl ?_
    refine fx_getR (q := 32) d_MO_read_242 lk_MO_16 (at_31 (h := _) hS) rfl rfl ?_
    refine fx_iload_n (i := 2) d_MO_read_245 rfl rfl ?_
    refine fx_iload_n (i := 2) d_MO_read_246 rfl rfl ?_
    refine fx_aload_n (i := 0) d_MO_read_247 rfl rfl ?_
    refine fx_getI d_MO_read_248 lk_MO_131 (at_31 (h := _) hS) rfl ?_
    refine fx_aload_n (i := 0) d_MO_read_251 rfl rfl ?_
    refine fx_getI d_MO_read_252 lk_MO_216 (at_31 (h := _) hS) rfl ?_
    refine fx_imul d_MO_read_255 ?_
    obtain ⟨hz5, H⟩ := H
    refine fx_icmp_ge (t := 268) (n := 259) d_MO_read_256 hz1 hz5 (fun z6 => ?_) (fun z6 => ?_)
    · replace H := H.1 z6
      refine fx_iconst d_MO_read_268 ?_
      obtain ⟨hn7, H⟩ := H
      obtain ⟨hn8, H⟩ := H
      refine fx_iast d_MO_read_269 (at_32 (h := _) hS) hn7 hn8 (by decide) ?_
      refine fx_iinc (v := x2 + 1) (ls2 := [some (.ref 31), some (.int (zI x1)), some (.int (zI (x2 + 1)))]) d_MO_read_270 rfl rfl (by decide) rfl ?_
      refine fx_goto (n := 234) d_MO_read_273 ?_
      exact H
    · replace H := H.2 z6
      refine fx_aload_n (i := 0) d_MO_read_259 rfl rfl ?_
      refine fx_getR (q := 34) d_MO_read_260 lk_MO_35 (at_31 (h := _) hS) rfl rfl ?_
      refine fx_iload_n (i := 2) d_MO_read_263 rfl rfl ?_
      obtain ⟨hn9, H⟩ := H
      obtain ⟨hn10, H⟩ := H
      refine fx_iald d_MO_read_264 (at_34 (h := _) hS) hn9 hn10 (by decide) ?_
      refine fx_goto (n := 269) d_MO_read_265 ?_
      obtain ⟨hn11, H⟩ := H
      obtain ⟨hn12, H⟩ := H
      refine fx_iast d_MO_read_269 (at_32 (h := _) hS) hn11 hn12 (by decide) ?_
      refine fx_iinc (v := x2 + 1) (ls2 := [some (.ref 31), some (.int (zI x1)), some (.int (zI (x2 + 1)))]) d_MO_read_270 rfl rfl (by decide) rfl ?_
      refine fx_goto (n := 234) d_MO_read_273 ?_
      exact H

