/-! what is owed of the numbers, by program (wip/printvc.py) -/
set_option maxRecDepth 100000 in
set_option maxHeartbeats 4000000 in
theorem e_TG_placeOf {l : Launch} {Q : Option Value → fx_H → Prop} {h : fx_H}  {n : Int}  {a : Nat → Nat} {pp dd : Nat} (hS : h.1 = fx_S0 a pp dd) 
    (H : (fx_V l M_TG_placeOf (0, 0) Q 0 0 2 [some (.ref 11), some (.int (zI n)), some (.int (zI 0))] [] h)) :
    fx_Mt l M_TG_placeOf (0, 0) [.ref 11, .int (zI n)] h Q := by
  refine fx_entry (ls := [some (.ref 11), some (.int (zI n)), none]) (by decide) (Nat.le_of_ble_eq_true rfl) rfl ?_
  refine fx_iconst d_TG_placeOf_0 ?_
  refine fx_istore_n (i := 2) (ls2 := [some (.ref 11), some (.int (zI n)), some (.int (zI 0))]) d_TG_placeOf_1 rfl (by decide) rfl ?_
  exact H

set_option maxRecDepth 100000 in
set_option maxHeartbeats 4000000 in
theorem w_TG_placeOf_2 {l : Launch} {Q : Option Value → fx_H → Prop} {h : fx_H}  {x1 : Int} {x2 : Int}  {a : Nat → Nat} {pp dd : Nat} (hS : h.1 = fx_S0 a pp dd) 
    (H : zR x2 ∧ ((9 ≤ x2 → Q (some (.int (zI (-1)))) h) ∧ (¬ (9 ≤ x2) → 0 ≤ x2 ∧ x2 < 9 ∧ zR (fx_tNU.getD x2.toNat 0) ∧ zR x1 ∧ ((¬ (fx_tNU.getD x2.toNat 0) = x1 → (fx_V l M_TG_placeOf (0, 0) Q 0 0 2 [some (.ref 11), some (.int (zI x1)), some (.int (zI (x2 + 1)))] [] h)) ∧ ((fx_tNU.getD x2.toNat 0) = x1 → 0 ≤ x2 ∧ x2 < 9 ∧ Q (some (.int (zI (h.2.2.1 12 (x2.toNat))))) h))))) :
    fx_V l M_TG_placeOf (0, 0) Q 0 0 2 [some (.ref 11), some (.int (zI x1)), some (.int (zI x2))] [] h := by
  refine fx_iload_n (i := 2) d_TG_placeOf_2 rfl rfl ?_
  refine fx_gets (k0 := 0) d_TG_placeOf_3 ls_TG_15 ?_
  refine fx_tlen (k0 := 0) (v := 9) d_TG_placeOf_6 rfl rfl ?_
  obtain ⟨hz1, H⟩ := H
  refine fx_icmp_ge (t := 32) (n := 10) d_TG_placeOf_7 hz1 (show zR 9 by decide) (fun z2 => ?_) (fun z2 => ?_)
  · replace H := H.1 z2
    refine fx_iconst d_TG_placeOf_32 ?_
    exact fx_end (some (.int (zI (-1)))) ⟨⟨_, rfl, rfl⟩, d_TG_placeOf_33⟩ (Nat.le_refl _) (Nat.le_refl _) rfl H
  · replace H := H.2 z2
    refine fx_gets (k0 := 0) d_TG_placeOf_10 ls_TG_15 ?_
    refine fx_iload_n (i := 2) d_TG_placeOf_13 rfl rfl ?_
    obtain ⟨hn3, H⟩ := H
    obtain ⟨hn4, H⟩ := H
    refine fx_tald (k0 := 0) d_TG_placeOf_14 rfl hn3 hn4 (by decide) ?_
    refine fx_iload_n (i := 1) d_TG_placeOf_15 rfl rfl ?_
    obtain ⟨hz5, H⟩ := H
    obtain ⟨hz6, H⟩ := H
    refine fx_icmp_ne (t := 26) (n := 19) d_TG_placeOf_16 hz5 hz6 (fun z7 => ?_) (fun z7 => ?_)
    · replace H := H.1 z7
      refine fx_iinc (v := x2 + 1) (ls2 := [some (.ref 11), some (.int (zI x1)), some (.int (zI (x2 + 1)))]) d_TG_placeOf_26 rfl rfl (by decide) rfl ?_
      refine fx_goto (n := 2) d_TG_placeOf_29 ?_
      exact H
    · replace H := H.2 z7
      refine fx_aload_n (i := 0) d_TG_placeOf_19 rfl rfl ?_
      refine fx_getR (q := 12) d_TG_placeOf_20 lk_TG_19 (at_11 (h := _) hS) rfl rfl ?_
      refine fx_iload_n (i := 2) d_TG_placeOf_23 rfl rfl ?_
      obtain ⟨hn8, H⟩ := H
      obtain ⟨hn9, H⟩ := H
      refine fx_iald d_TG_placeOf_24 (at_12 (h := _) hS) hn8 hn9 (by decide) ?_
      exact fx_end (some (.int (zI (h.2.2.1 12 (x2.toNat))))) ⟨⟨_, rfl, rfl⟩, d_TG_placeOf_25⟩ (Nat.le_refl _) (Nat.le_refl _) rfl H

set_option maxRecDepth 100000 in
set_option maxHeartbeats 4000000 in
theorem e_TG_note {l : Launch} {Q : Option Value → fx_H → Prop} {h : fx_H}  {n : Int} {q : Int}  {a : Nat → Nat} {pp dd : Nat} (hS : h.1 = fx_S0 a pp dd) 
    (H : (fx_V l M_TG_note (0, 0) Q 0 0 2 [some (.ref 11), some (.int (zI n)), some (.int (zI q)), some (.int (zI 0))] [] h)) :
    fx_Mt l M_TG_note (0, 0) [.ref 11, .int (zI n), .int (zI q)] h Q := by
  refine fx_entry (ls := [some (.ref 11), some (.int (zI n)), some (.int (zI q)), none]) (by decide) (Nat.le_of_ble_eq_true rfl) rfl ?_
  refine fx_iconst d_TG_note_0 ?_
  refine fx_istore_n (i := 3) (ls2 := [some (.ref 11), some (.int (zI n)), some (.int (zI q)), some (.int (zI 0))]) d_TG_note_1 rfl (by decide) rfl ?_
  exact H

set_option maxRecDepth 100000 in
set_option maxHeartbeats 4000000 in
theorem w_TG_note_2 {l : Launch} {Q : Option Value → fx_H → Prop} {h : fx_H}  {x1 : Int} {x2 : Int} {x3 : Int}  {a : Nat → Nat} {pp dd : Nat} (hS : h.1 = fx_S0 a pp dd) 
    (H : zR x3 ∧ ((9 ≤ x3 → Q none h) ∧ (¬ (9 ≤ x3) → 0 ≤ x3 ∧ x3 < 9 ∧ zR (fx_tNU.getD x3.toNat 0) ∧ zR x1 ∧ ((¬ (fx_tNU.getD x3.toNat 0) = x1 → (fx_V l M_TG_note (0, 0) Q 0 0 2 [some (.ref 11), some (.int (zI x1)), some (.int (zI x2)), some (.int (zI (x3 + 1)))] [] h)) ∧ ((fx_tNU.getD x3.toNat 0) = x1 → 0 ≤ x3 ∧ x3 < 9 ∧ (fx_V l M_TG_note (0, 0) Q 0 0 2 [some (.ref 11), some (.int (zI x1)), some (.int (zI x2)), some (.int (zI (x3 + 1)))] [] (fx_uA h 12 (x3.toNat) x2))))))) :
    fx_V l M_TG_note (0, 0) Q 0 0 2 [some (.ref 11), some (.int (zI x1)), some (.int (zI x2)), some (.int (zI x3))] [] h := by
  refine fx_iload_n (i := 3) d_TG_note_2 rfl rfl ?_
  refine fx_gets (k0 := 0) d_TG_note_3 ls_TG_15 ?_
  refine fx_tlen (k0 := 0) (v := 9) d_TG_note_6 rfl rfl ?_
  obtain ⟨hz1, H⟩ := H
  refine fx_icmp_ge (t := 32) (n := 10) d_TG_note_7 hz1 (show zR 9 by decide) (fun z2 => ?_) (fun z2 => ?_)
  · replace H := H.1 z2
    exact fx_end none ⟨rfl, d_TG_note_32⟩ (Nat.le_refl _) (Nat.le_refl _) rfl H
  · replace H := H.2 z2
    refine fx_gets (k0 := 0) d_TG_note_10 ls_TG_15 ?_
    refine fx_iload_n (i := 3) d_TG_note_13 rfl rfl ?_
    obtain ⟨hn3, H⟩ := H
    obtain ⟨hn4, H⟩ := H
    refine fx_tald (k0 := 0) d_TG_note_14 rfl hn3 hn4 (by decide) ?_
    refine fx_iload_n (i := 1) d_TG_note_15 rfl rfl ?_
    obtain ⟨hz5, H⟩ := H
    obtain ⟨hz6, H⟩ := H
    refine fx_icmp_ne (t := 26) (n := 19) d_TG_note_16 hz5 hz6 (fun z7 => ?_) (fun z7 => ?_)
    · replace H := H.1 z7
      refine fx_iinc (v := x3 + 1) (ls2 := [some (.ref 11), some (.int (zI x1)), some (.int (zI x2)), some (.int (zI (x3 + 1)))]) d_TG_note_26 rfl rfl (by decide) rfl ?_
      refine fx_goto (n := 2) d_TG_note_29 ?_
      exact H
    · replace H := H.2 z7
      refine fx_aload_n (i := 0) d_TG_note_19 rfl rfl ?_
      refine fx_getR (q := 12) d_TG_note_20 lk_TG_19 (at_11 (h := _) hS) rfl rfl ?_
      refine fx_iload_n (i := 3) d_TG_note_23 rfl rfl ?_
      refine fx_iload_n (i := 2) d_TG_note_24 rfl rfl ?_
      obtain ⟨hn8, H⟩ := H
      obtain ⟨hn9, H⟩ := H
      refine fx_iast d_TG_note_25 (at_12 (h := _) hS) hn8 hn9 (by decide) ?_
      refine fx_iinc (v := x3 + 1) (ls2 := [some (.ref 11), some (.int (zI x1)), some (.int (zI x2)), some (.int (zI (x3 + 1)))]) d_TG_note_26 rfl rfl (by decide) rfl ?_
      refine fx_goto (n := 2) d_TG_note_29 ?_
      exact H

set_option maxRecDepth 100000 in
set_option maxHeartbeats 4000000 in
theorem e_TG_bytesOfValue {l : Launch} {Q : Option Value → fx_H → Prop} {h : fx_H}  {q : Int}  {a : Nat → Nat} {pp dd : Nat} (hS : h.1 = fx_S0 a pp dd) 
    (H : fx_Mt l M_BY_numberAt (0, 0) [.ref 1, .int (zI (q + 2)), .int (zI 2)] h (fun v h1 => ∃ r3 : Int, v = some (.long (zL r3)) ∧ h1.1 = h.1 ∧ zRL r3 ∧ ((¬ (zC r3 3) = 0 → Q (some (.int (zI 4))) h1) ∧ ((zC r3 3) = 0 → Q (some (.int (zI 2))) h1)))) :
    fx_Mt l M_TG_bytesOfValue (0, 0) [.ref 11, .int (zI q)] h Q := by
  refine fx_entry (ls := [some (.ref 11), some (.int (zI q))]) (by decide) (Nat.le_of_ble_eq_true rfl) rfl ?_
  refine fx_aload_n (i := 0) d_TG_bytesOfValue_0 rfl rfl ?_
  refine fx_getR (q := 1) d_TG_bytesOfValue_1 lk_TG_9 (at_11 (h := _) hS) rfl rfl ?_
  refine fx_iload_n (i := 1) d_TG_bytesOfValue_4 rfl rfl ?_
  refine fx_iconst d_TG_bytesOfValue_5 ?_
  refine fx_iadd d_TG_bytesOfValue_6 ?_
  refine fx_iconst d_TG_bytesOfValue_7 ?_
  refine fx_callV (M' := M_BY_numberAt) (B' := (0, 0)) (vs := [.int (zI (q + 2)), .int (zI 2)]) (rest := []) (c1 := 0) (s1 := 0) (n := 11) d_TG_bytesOfValue_8 ca_TG_bytesOfValue_41 (at_1 (h := _) hS) rfl rfl rfl ⟨by decide, by decide⟩ (Nat.le_of_ble_eq_true rfl) (Or.inl rfl) (fx_Mt.mono H fun v h1 hv => ?_)
  obtain ⟨r3, rfl, e2, H⟩ := hv
  have hS1 := e2.trans hS
  show fx_V l M_TG_bytesOfValue (0, 0) Q 0 0 11 [some (.ref 11), some (.int (zI q))] [.long (zL r3)] h1
  refine fx_ldc2 (v := 3) d_TG_bytesOfValue_11 (fx_in 386 (by decide +kernel) rfl) ?_
  obtain ⟨hz4, H⟩ := H
  refine fx_lcmp d_TG_bytesOfValue_14 hz4 (show zRL 3 by decide) ?_
  refine fx_if_ne (t := 22) (n := 18) d_TG_bytesOfValue_15 (zC_R _ _) (fun z5 => ?_) (fun z5 => ?_)
  · replace H := H.1 z5
    refine fx_iconst d_TG_bytesOfValue_22 ?_
    exact fx_end (some (.int (zI 4))) ⟨⟨_, rfl, rfl⟩, d_TG_bytesOfValue_23⟩ (Nat.le_refl _) (Nat.le_refl _) rfl H
  · replace H := H.2 z5
    refine fx_iconst d_TG_bytesOfValue_18 ?_
    refine fx_goto (n := 23) d_TG_bytesOfValue_19 ?_
    exact fx_end (some (.int (zI 2))) ⟨⟨_, rfl, rfl⟩, d_TG_bytesOfValue_23⟩ (Nat.le_refl _) (Nat.le_refl _) rfl H

set_option maxRecDepth 100000 in
set_option maxHeartbeats 4000000 in
theorem e_TG_valueOf {l : Launch} {Q : Option Value → fx_H → Prop} {h : fx_H}  {n : Int} {x : Int}  {a : Nat → Nat} {pp dd : Nat} (hS : h.1 = fx_S0 a pp dd) 
    (H : fx_Mt l M_TG_placeOf (0, 0) [.ref 11, .int (zI n)] h (fun v h1 => ∃ r3 : Int, v = some (.int (zI r3)) ∧ h1.1 = h.1 ∧ fx_Mt l M_TG_bytesOfValue (0, 0) [.ref 11, .int (zI r3)] h1 (fun v h4 => ∃ r6 : Int, v = some (.int (zI r6)) ∧ h4.1 = h1.1 ∧ fx_Mt l M_BY_numberAt (0, 0) [.ref 1, .int (zI (r3 + 4)), .int (zI 4)] h4 (fun v h7 => ∃ r9 : Int, v = some (.long (zL r9)) ∧ h7.1 = h4.1 ∧ zR r6 ∧ zRL (r9 * r6) ∧ ((0 < (zC (r9 * r6) 4) → fx_Mt l M_BY_numberAt (0, 0) [.ref 1, .int (zI (r3 + 8)), .int (zI 4)] h7 (fun v h13 => ∃ r15 : Int, v = some (.long (zL r15)) ∧ h13.1 = h7.1 ∧ fx_Mt l M_BY_numberAt (0, 0) [.ref 1, .int (zI (r15 + (x * r6))), .int (zI r6)] h13 (fun v h16 => ∃ r18 : Int, v = some (.long (zL r18)) ∧ h16.1 = h13.1 ∧ Q (some (.long (zL r18))) h16))) ∧ (¬ (0 < (zC (r9 * r6) 4)) → fx_Mt l M_BY_numberAt (0, 0) [.ref 1, .int (zI ((r3 + 8) + (x * r6))), .int (zI r6)] h7 (fun v h19 => ∃ r21 : Int, v = some (.long (zL r21)) ∧ h19.1 = h7.1 ∧ Q (some (.long (zL r21))) h19))))))) :
    fx_Mt l M_TG_valueOf (0, 0) [.ref 11, .int (zI n), .int (zI x)] h Q := by
  refine fx_entry (ls := [some (.ref 11), some (.int (zI n)), some (.int (zI x)), none, none, none, none]) (by decide) (Nat.le_of_ble_eq_true rfl) rfl ?_
  refine fx_aload_n (i := 0) d_TG_valueOf_0 rfl rfl ?_
  refine fx_iload_n (i := 1) d_TG_valueOf_1 rfl rfl ?_
  refine fx_callV (M' := M_TG_placeOf) (B' := (0, 0)) (vs := [.int (zI n)]) (rest := []) (c1 := 0) (s1 := 0) (n := 5) d_TG_valueOf_2 ca_TG_valueOf_87 (at_11 (h := _) hS) rfl rfl rfl ⟨by decide, by decide⟩ (Nat.le_of_ble_eq_true rfl) (Or.inl rfl) (fx_Mt.mono H fun v h1 hv => ?_)
  obtain ⟨r3, rfl, e2, H⟩ := hv
  have hS1 := e2.trans hS
  show fx_V l M_TG_valueOf (0, 0) Q 0 0 5 [some (.ref 11), some (.int (zI n)), some (.int (zI x)), none, none, none, none] [.int (zI r3)] h1
  refine fx_istore_n (i := 3) (ls2 := [some (.ref 11), some (.int (zI n)), some (.int (zI x)), some (.int (zI r3)), none, none, none]) d_TG_valueOf_5 rfl (by decide) rfl ?_
  refine fx_aload_n (i := 0) d_TG_valueOf_6 rfl rfl ?_
  refine fx_iload_n (i := 3) d_TG_valueOf_7 rfl rfl ?_
  refine fx_callV (M' := M_TG_bytesOfValue) (B' := (0, 0)) (vs := [.int (zI r3)]) (rest := []) (c1 := 0) (s1 := 0) (n := 11) d_TG_valueOf_8 ca_TG_valueOf_114 (at_11 (h := _) hS1) rfl rfl rfl ⟨by decide, by decide⟩ (Nat.le_of_ble_eq_true rfl) (Or.inl rfl) (fx_Mt.mono H fun v h4 hv => ?_)
  obtain ⟨r6, rfl, e5, H⟩ := hv
  have hS4 := e5.trans hS1
  show fx_V l M_TG_valueOf (0, 0) Q 0 0 11 [some (.ref 11), some (.int (zI n)), some (.int (zI x)), some (.int (zI r3)), none, none, none] [.int (zI r6)] h4
  refine fx_istore (ls2 := [some (.ref 11), some (.int (zI n)), some (.int (zI x)), some (.int (zI r3)), some (.int (zI r6)), none, none]) d_TG_valueOf_11 (by decide) rfl ?_
  refine fx_aload_n (i := 0) d_TG_valueOf_13 rfl rfl ?_
  refine fx_getR (q := 1) d_TG_valueOf_14 lk_TG_9 (at_11 (h := _) hS4) rfl rfl ?_
  refine fx_iload_n (i := 3) d_TG_valueOf_17 rfl rfl ?_
  refine fx_iconst d_TG_valueOf_18 ?_
  refine fx_iadd d_TG_valueOf_19 ?_
  refine fx_iconst d_TG_valueOf_20 ?_
  refine fx_callV (M' := M_BY_numberAt) (B' := (0, 0)) (vs := [.int (zI (r3 + 4)), .int (zI 4)]) (rest := []) (c1 := 0) (s1 := 0) (n := 24) d_TG_valueOf_21 ca_TG_valueOf_41 (at_1 (h := _) hS4) rfl rfl rfl ⟨by decide, by decide⟩ (Nat.le_of_ble_eq_true rfl) (Or.inl rfl) (fx_Mt.mono H fun v h7 hv => ?_)
  obtain ⟨r9, rfl, e8, H⟩ := hv
  have hS7 := e8.trans hS4
  show fx_V l M_TG_valueOf (0, 0) Q 0 0 24 [some (.ref 11), some (.int (zI n)), some (.int (zI x)), some (.int (zI r3)), some (.int (zI r6)), none, none] [.long (zL r9)] h7
  refine fx_iload d_TG_valueOf_24 rfl ?_
  obtain ⟨hz10, H⟩ := H
  refine fx_i2l d_TG_valueOf_26 hz10 ?_
  refine fx_lmul d_TG_valueOf_27 ?_
  refine fx_ldc2 (v := 4) d_TG_valueOf_28 (fx_in 387 (by decide +kernel) rfl) ?_
  obtain ⟨hz11, H⟩ := H
  refine fx_lcmp d_TG_valueOf_31 hz11 (show zRL 4 by decide) ?_
  refine fx_if_gt (t := 39) (n := 35) d_TG_valueOf_32 (zC_R _ _) (fun z12 => ?_) (fun z12 => ?_)
  · replace H := H.1 z12
    refine fx_iconst d_TG_valueOf_39 ?_
    refine fx_istore (ls2 := [some (.ref 11), some (.int (zI n)), some (.int (zI x)), some (.int (zI r3)), some (.int (zI r6)), some (.int (zI 0)), none]) d_TG_valueOf_40 (by decide) rfl ?_
    refine fx_iload d_TG_valueOf_42 rfl ?_
    refine fx_if_eq (t := 54) (n := 47) d_TG_valueOf_44 (show zR 0 by decide) (fun z => ?_) (fun z => absurd (show ¬ ((0 : Int) = (0 : Int)) from z) (by decide))
    refine fx_aload_n (i := 0) d_TG_valueOf_54 rfl rfl ?_
    refine fx_getR (q := 1) d_TG_valueOf_55 lk_TG_9 (at_11 (h := _) hS7) rfl rfl ?_
    refine fx_iload_n (i := 3) d_TG_valueOf_58 rfl rfl ?_
    refine fx_bipush (v := 8) d_TG_valueOf_59 rfl ?_
    refine fx_iadd d_TG_valueOf_61 ?_
    refine fx_iconst d_TG_valueOf_62 ?_
    refine fx_callV (M' := M_BY_numberAt) (B' := (0, 0)) (vs := [.int (zI (r3 + 8)), .int (zI 4)]) (rest := []) (c1 := 0) (s1 := 0) (n := 66) d_TG_valueOf_63 ca_TG_valueOf_41 (at_1 (h := _) hS7) rfl rfl rfl ⟨by decide, by decide⟩ (Nat.le_of_ble_eq_true rfl) (Or.inl rfl) (fx_Mt.mono H fun v h13 hv => ?_)
    obtain ⟨r15, rfl, e14, H⟩ := hv
    have hS13 := e14.trans hS7
    show fx_V l M_TG_valueOf (0, 0) Q 0 0 66 [some (.ref 11), some (.int (zI n)), some (.int (zI x)), some (.int (zI r3)), some (.int (zI r6)), some (.int (zI 0)), none] [.long (zL r15)] h13
    refine fx_l2i d_TG_valueOf_66 ?_
    refine fx_istore (ls2 := [some (.ref 11), some (.int (zI n)), some (.int (zI x)), some (.int (zI r3)), some (.int (zI r6)), some (.int (zI 0)), some (.int (zI r15))]) d_TG_valueOf_67 (by decide) rfl ?_
    refine fx_aload_n (i := 0) d_TG_valueOf_69 rfl rfl ?_
    refine fx_getR (q := 1) d_TG_valueOf_70 lk_TG_9 (at_11 (h := _) hS13) rfl rfl ?_
    refine fx_iload d_TG_valueOf_73 rfl ?_
    refine fx_iload_n (i := 2) d_TG_valueOf_75 rfl rfl ?_
    refine fx_iload d_TG_valueOf_76 rfl ?_
    refine fx_imul d_TG_valueOf_78 ?_
    refine fx_iadd d_TG_valueOf_79 ?_
    refine fx_iload d_TG_valueOf_80 rfl ?_
    refine fx_callV (M' := M_BY_numberAt) (B' := (0, 0)) (vs := [.int (zI (r15 + (x * r6))), .int (zI r6)]) (rest := []) (c1 := 0) (s1 := 0) (n := 85) d_TG_valueOf_82 ca_TG_valueOf_41 (at_1 (h := _) hS13) rfl rfl rfl ⟨by decide, by decide⟩ (Nat.le_of_ble_eq_true rfl) (Or.inl rfl) (fx_Mt.mono H fun v h16 hv => ?_)
    obtain ⟨r18, rfl, e17, H⟩ := hv
    have hS16 := e17.trans hS13
    show fx_V l M_TG_valueOf (0, 0) Q 0 0 85 [some (.ref 11), some (.int (zI n)), some (.int (zI x)), some (.int (zI r3)), some (.int (zI r6)), some (.int (zI 0)), some (.int (zI r15))] [.long (zL r18)] h16
    exact fx_end (some (.long (zL r18))) ⟨rfl, d_TG_valueOf_85⟩ (Nat.le_refl _) (Nat.le_refl _) rfl H
  · replace H := H.2 z12
    refine fx_iconst d_TG_valueOf_35 ?_
    refine fx_goto (n := 40) d_TG_valueOf_36 ?_
    refine fx_istore (ls2 := [some (.ref 11), some (.int (zI n)), some (.int (zI x)), some (.int (zI r3)), some (.int (zI r6)), some (.int (zI 1)), none]) d_TG_valueOf_40 (by decide) rfl ?_
    refine fx_iload d_TG_valueOf_42 rfl ?_
    refine fx_if_eq (t := 54) (n := 47) d_TG_valueOf_44 (show zR 1 by decide) (fun z => absurd (show (1 : Int) = (0 : Int) from z) (by decide)) (fun z => ?_)
    refine fx_iload_n (i := 3) d_TG_valueOf_47 rfl rfl ?_
    refine fx_bipush (v := 8) d_TG_valueOf_48 rfl ?_
    refine fx_iadd d_TG_valueOf_50 ?_
    refine fx_goto (n := 67) d_TG_valueOf_51 ?_
    refine fx_istore (ls2 := [some (.ref 11), some (.int (zI n)), some (.int (zI x)), some (.int (zI r3)), some (.int (zI r6)), some (.int (zI 1)), some (.int (zI (r3 + 8)))]) d_TG_valueOf_67 (by decide) rfl ?_
    refine fx_aload_n (i := 0) d_TG_valueOf_69 rfl rfl ?_
    refine fx_getR (q := 1) d_TG_valueOf_70 lk_TG_9 (at_11 (h := _) hS7) rfl rfl ?_
    refine fx_iload d_TG_valueOf_73 rfl ?_
    refine fx_iload_n (i := 2) d_TG_valueOf_75 rfl rfl ?_
    refine fx_iload d_TG_valueOf_76 rfl ?_
    refine fx_imul d_TG_valueOf_78 ?_
    refine fx_iadd d_TG_valueOf_79 ?_
    refine fx_iload d_TG_valueOf_80 rfl ?_
    refine fx_callV (M' := M_BY_numberAt) (B' := (0, 0)) (vs := [.int (zI ((r3 + 8) + (x * r6))), .int (zI r6)]) (rest := []) (c1 := 0) (s1 := 0) (n := 85) d_TG_valueOf_82 ca_TG_valueOf_41 (at_1 (h := _) hS7) rfl rfl rfl ⟨by decide, by decide⟩ (Nat.le_of_ble_eq_true rfl) (Or.inl rfl) (fx_Mt.mono H fun v h19 hv => ?_)
    obtain ⟨r21, rfl, e20, H⟩ := hv
    have hS19 := e20.trans hS7
    show fx_V l M_TG_valueOf (0, 0) Q 0 0 85 [some (.ref 11), some (.int (zI n)), some (.int (zI x)), some (.int (zI r3)), some (.int (zI r6)), some (.int (zI 1)), some (.int (zI (r3 + 8)))] [.long (zL r21)] h19
    exact fx_end (some (.long (zL r21))) ⟨rfl, d_TG_valueOf_85⟩ (Nat.le_refl _) (Nat.le_refl _) rfl H

set_option maxRecDepth 100000 in
set_option maxHeartbeats 4000000 in
theorem e_TG_hasValues {l : Launch} {Q : Option Value → fx_H → Prop} {h : fx_H}  {n : Int} {x : Int}  {a : Nat → Nat} {pp dd : Nat} (hS : h.1 = fx_S0 a pp dd) 
    (H : fx_Mt l M_TG_placeOf (0, 0) [.ref 11, .int (zI n)] h (fun v h1 => ∃ r3 : Int, v = some (.int (zI r3)) ∧ h1.1 = h.1 ∧ zR r3 ∧ ((¬ r3 = (-1) → fx_Mt l M_BY_numberAt (0, 0) [.ref 1, .int (zI (r3 + 2)), .int (zI 2)] h1 (fun v h6 => ∃ r8 : Int, v = some (.long (zL r8)) ∧ h6.1 = h1.1 ∧ zRL r8 ∧ (((zC r8 3) = 0 → fx_Mt l M_BY_numberAt (0, 0) [.ref 1, .int (zI (r3 + 4)), .int (zI 4)] h6 (fun v h11 => ∃ r13 : Int, v = some (.long (zL r13)) ∧ h11.1 = h6.1 ∧ zR x ∧ zRL r13 ∧ zRL x ∧ (((zC r13 x) = 0 → fx_Mt l M_TG_bytesOfValue (0, 0) [.ref 11, .int (zI r3)] h11 (fun v h18 => ∃ r20 : Int, v = some (.int (zI r20)) ∧ h18.1 = h11.1 ∧ zR (x * r20) ∧ (((x * r20) ≤ 4 → Q (some (.int (zI 1))) h18) ∧ (¬ ((x * r20) ≤ 4) → fx_Mt l M_BY_numberAt (0, 0) [.ref 1, .int (zI (r3 + 8)), .int (zI 4)] h18 (fun v h23 => ∃ r25 : Int, v = some (.long (zL r25)) ∧ h23.1 = h18.1 ∧ zR (h23.2.1 1 1) ∧ zRL (r25 + (x * r20)) ∧ zRL (h23.2.1 1 1) ∧ ((0 < (zC (r25 + (x * r20)) (h23.2.1 1 1)) → Q (some (.int (zI 0))) h23) ∧ (¬ (0 < (zC (r25 + (x * r20)) (h23.2.1 1 1))) → Q (some (.int (zI 1))) h23))))))) ∧ (¬ ((zC r13 x) = 0) → Q (some (.int (zI 0))) h11)))) ∧ (¬ ((zC r8 3) = 0) → ((¬ (zC r8 4) = 0 → Q (some (.int (zI 0))) h6) ∧ ((zC r8 4) = 0 → fx_Mt l M_BY_numberAt (0, 0) [.ref 1, .int (zI (r3 + 4)), .int (zI 4)] h6 (fun v h31 => ∃ r33 : Int, v = some (.long (zL r33)) ∧ h31.1 = h6.1 ∧ zR x ∧ zRL r33 ∧ zRL x ∧ (((zC r33 x) = 0 → fx_Mt l M_TG_bytesOfValue (0, 0) [.ref 11, .int (zI r3)] h31 (fun v h38 => ∃ r40 : Int, v = some (.int (zI r40)) ∧ h38.1 = h31.1 ∧ zR (x * r40) ∧ (((x * r40) ≤ 4 → Q (some (.int (zI 1))) h38) ∧ (¬ ((x * r40) ≤ 4) → fx_Mt l M_BY_numberAt (0, 0) [.ref 1, .int (zI (r3 + 8)), .int (zI 4)] h38 (fun v h43 => ∃ r45 : Int, v = some (.long (zL r45)) ∧ h43.1 = h38.1 ∧ zR (h43.2.1 1 1) ∧ zRL (r45 + (x * r40)) ∧ zRL (h43.2.1 1 1) ∧ ((0 < (zC (r45 + (x * r40)) (h43.2.1 1 1)) → Q (some (.int (zI 0))) h43) ∧ (¬ (0 < (zC (r45 + (x * r40)) (h43.2.1 1 1))) → Q (some (.int (zI 1))) h43))))))) ∧ (¬ ((zC r33 x) = 0) → Q (some (.int (zI 0))) h31))))))))) ∧ (r3 = (-1) → Q (some (.int (zI 0))) h1)))) :
    fx_Mt l M_TG_hasValues (0, 0) [.ref 11, .int (zI n), .int (zI x)] h Q := by
  refine fx_entry (ls := [some (.ref 11), some (.int (zI n)), some (.int (zI x)), none, none, none, none]) (by decide) (Nat.le_of_ble_eq_true rfl) rfl ?_
  refine fx_aload_n (i := 0) d_TG_hasValues_0 rfl rfl ?_
  refine fx_iload_n (i := 1) d_TG_hasValues_1 rfl rfl ?_
  refine fx_callV (M' := M_TG_placeOf) (B' := (0, 0)) (vs := [.int (zI n)]) (rest := []) (c1 := 0) (s1 := 0) (n := 5) d_TG_hasValues_2 ca_TG_hasValues_87 (at_11 (h := _) hS) rfl rfl rfl ⟨by decide, by decide⟩ (Nat.le_of_ble_eq_true rfl) (Or.inl rfl) (fx_Mt.mono H fun v h1 hv => ?_)
  obtain ⟨r3, rfl, e2, H⟩ := hv
  have hS1 := e2.trans hS
  show fx_V l M_TG_hasValues (0, 0) Q 0 0 5 [some (.ref 11), some (.int (zI n)), some (.int (zI x)), none, none, none, none] [.int (zI r3)] h1
  refine fx_istore_n (i := 3) (ls2 := [some (.ref 11), some (.int (zI n)), some (.int (zI x)), some (.int (zI r3)), none, none, none]) d_TG_hasValues_5 rfl (by decide) rfl ?_
  refine fx_iload_n (i := 3) d_TG_hasValues_6 rfl rfl ?_
  refine fx_iconst d_TG_hasValues_7 ?_
  obtain ⟨hz4, H⟩ := H
  refine fx_icmp_ne (t := 13) (n := 11) d_TG_hasValues_8 hz4 (show zR (-1) by decide) (fun z5 => ?_) (fun z5 => ?_)
  · replace H := H.1 z5
    refine fx_aload_n (i := 0) d_TG_hasValues_13 rfl rfl ?_
    refine fx_getR (q := 1) d_TG_hasValues_14 lk_TG_9 (at_11 (h := _) hS1) rfl rfl ?_
    refine fx_iload_n (i := 3) d_TG_hasValues_17 rfl rfl ?_
    refine fx_iconst d_TG_hasValues_18 ?_
    refine fx_iadd d_TG_hasValues_19 ?_
    refine fx_iconst d_TG_hasValues_20 ?_
    refine fx_callV (M' := M_BY_numberAt) (B' := (0, 0)) (vs := [.int (zI (r3 + 2)), .int (zI 2)]) (rest := []) (c1 := 0) (s1 := 0) (n := 24) d_TG_hasValues_21 ca_TG_hasValues_41 (at_1 (h := _) hS1) rfl rfl rfl ⟨by decide, by decide⟩ (Nat.le_of_ble_eq_true rfl) (Or.inl rfl) (fx_Mt.mono H fun v h6 hv => ?_)
    obtain ⟨r8, rfl, e7, H⟩ := hv
    have hS6 := e7.trans hS1
    show fx_V l M_TG_hasValues (0, 0) Q 0 0 24 [some (.ref 11), some (.int (zI n)), some (.int (zI x)), some (.int (zI r3)), none, none, none] [.long (zL r8)] h6
    refine fx_lstore (ls2 := [some (.ref 11), some (.int (zI n)), some (.int (zI x)), some (.int (zI r3)), some (.long (zL r8)), none, none]) d_TG_hasValues_24 (by decide) rfl ?_
    refine fx_lload d_TG_hasValues_26 rfl ?_
    refine fx_ldc2 (v := 3) d_TG_hasValues_28 (fx_in 386 (by decide +kernel) rfl) ?_
    obtain ⟨hz9, H⟩ := H
    refine fx_lcmp d_TG_hasValues_31 hz9 (show zRL 3 by decide) ?_
    refine fx_if_eq (t := 44) (n := 35) d_TG_hasValues_32 (zC_R _ _) (fun z10 => ?_) (fun z10 => ?_)
    · replace H := H.1 z10
      refine fx_aload_n (i := 0) d_TG_hasValues_44 rfl rfl ?_
      refine fx_getR (q := 1) d_TG_hasValues_45 lk_TG_9 (at_11 (h := _) hS6) rfl rfl ?_
      refine fx_iload_n (i := 3) d_TG_hasValues_48 rfl rfl ?_
      refine fx_iconst d_TG_hasValues_49 ?_
      refine fx_iadd d_TG_hasValues_50 ?_
      refine fx_iconst d_TG_hasValues_51 ?_
      refine fx_callV (M' := M_BY_numberAt) (B' := (0, 0)) (vs := [.int (zI (r3 + 4)), .int (zI 4)]) (rest := []) (c1 := 0) (s1 := 0) (n := 55) d_TG_hasValues_52 ca_TG_hasValues_41 (at_1 (h := _) hS6) rfl rfl rfl ⟨by decide, by decide⟩ (Nat.le_of_ble_eq_true rfl) (Or.inl rfl) (fx_Mt.mono H fun v h11 hv => ?_)
      obtain ⟨r13, rfl, e12, H⟩ := hv
      have hS11 := e12.trans hS6
      show fx_V l M_TG_hasValues (0, 0) Q 0 0 55 [some (.ref 11), some (.int (zI n)), some (.int (zI x)), some (.int (zI r3)), some (.long (zL r8)), none, none] [.long (zL r13)] h11
      refine fx_iload_n (i := 2) d_TG_hasValues_55 rfl rfl ?_
      obtain ⟨hz14, H⟩ := H
      refine fx_i2l d_TG_hasValues_56 hz14 ?_
      obtain ⟨hz15, H⟩ := H
      obtain ⟨hz16, H⟩ := H
      refine fx_lcmp d_TG_hasValues_57 hz15 hz16 ?_
      refine fx_if_eq (t := 63) (n := 61) d_TG_hasValues_58 (zC_R _ _) (fun z17 => ?_) (fun z17 => ?_)
      · replace H := H.1 z17
        refine fx_iload_n (i := 2) d_TG_hasValues_63 rfl rfl ?_
        refine fx_aload_n (i := 0) d_TG_hasValues_64 rfl rfl ?_
        refine fx_iload_n (i := 3) d_TG_hasValues_65 rfl rfl ?_
        refine fx_callV (M' := M_TG_bytesOfValue) (B' := (0, 0)) (vs := [.int (zI r3)]) (rest := [.int (zI x)]) (c1 := 0) (s1 := 0) (n := 69) d_TG_hasValues_66 ca_TG_hasValues_114 (at_11 (h := _) hS11) rfl rfl rfl ⟨by decide, by decide⟩ (Nat.le_of_ble_eq_true rfl) (Or.inl rfl) (fx_Mt.mono H fun v h18 hv => ?_)
        obtain ⟨r20, rfl, e19, H⟩ := hv
        have hS18 := e19.trans hS11
        show fx_V l M_TG_hasValues (0, 0) Q 0 0 69 [some (.ref 11), some (.int (zI n)), some (.int (zI x)), some (.int (zI r3)), some (.long (zL r8)), none, none] [.int (zI r20), .int (zI x)] h18
        refine fx_imul d_TG_hasValues_69 ?_
        refine fx_istore (ls2 := [some (.ref 11), some (.int (zI n)), some (.int (zI x)), some (.int (zI r3)), some (.long (zL r8)), none, some (.int (zI (x * r20)))]) d_TG_hasValues_70 (by decide) rfl ?_
        refine fx_iload d_TG_hasValues_72 rfl ?_
        refine fx_iconst d_TG_hasValues_74 ?_
        obtain ⟨hz21, H⟩ := H
        refine fx_icmp_le (t := 106) (n := 78) d_TG_hasValues_75 hz21 (show zR 4 by decide) (fun z22 => ?_) (fun z22 => ?_)
        · replace H := H.1 z22
          refine fx_iconst d_TG_hasValues_106 ?_
          refine fx_goto (n := 111) d_TG_hasValues_107 ?_
          exact fx_end (some (.int (zI 1))) ⟨⟨_, rfl, rfl⟩, d_TG_hasValues_111⟩ (Nat.le_refl _) (Nat.le_refl _) rfl H
        · replace H := H.2 z22
          refine fx_aload_n (i := 0) d_TG_hasValues_78 rfl rfl ?_
          refine fx_getR (q := 1) d_TG_hasValues_79 lk_TG_9 (at_11 (h := _) hS18) rfl rfl ?_
          refine fx_iload_n (i := 3) d_TG_hasValues_82 rfl rfl ?_
          refine fx_bipush (v := 8) d_TG_hasValues_83 rfl ?_
          refine fx_iadd d_TG_hasValues_85 ?_
          refine fx_iconst d_TG_hasValues_86 ?_
          refine fx_callV (M' := M_BY_numberAt) (B' := (0, 0)) (vs := [.int (zI (r3 + 8)), .int (zI 4)]) (rest := []) (c1 := 0) (s1 := 0) (n := 90) d_TG_hasValues_87 ca_TG_hasValues_41 (at_1 (h := _) hS18) rfl rfl rfl ⟨by decide, by decide⟩ (Nat.le_of_ble_eq_true rfl) (Or.inl rfl) (fx_Mt.mono H fun v h23 hv => ?_)
          obtain ⟨r25, rfl, e24, H⟩ := hv
          have hS23 := e24.trans hS18
          show fx_V l M_TG_hasValues (0, 0) Q 0 0 90 [some (.ref 11), some (.int (zI n)), some (.int (zI x)), some (.int (zI r3)), some (.long (zL r8)), none, some (.int (zI (x * r20)))] [.long (zL r25)] h23
          refine fx_iload d_TG_hasValues_90 rfl ?_
          refine fx_i2l d_TG_hasValues_92 hz21 ?_
          refine fx_ladd d_TG_hasValues_93 ?_
          refine fx_aload_n (i := 0) d_TG_hasValues_94 rfl rfl ?_
          refine fx_getR (q := 1) d_TG_hasValues_95 lk_TG_9 (at_11 (h := _) hS23) rfl rfl ?_
          refine fx_getI d_TG_hasValues_98 lk_TG_49 (at_1 (h := _) hS23) rfl ?_
          obtain ⟨hz26, H⟩ := H
          refine fx_i2l d_TG_hasValues_101 hz26 ?_
          obtain ⟨hz27, H⟩ := H
          obtain ⟨hz28, H⟩ := H
          refine fx_lcmp d_TG_hasValues_102 hz27 hz28 ?_
          refine fx_if_gt (t := 110) (n := 106) d_TG_hasValues_103 (zC_R _ _) (fun z29 => ?_) (fun z29 => ?_)
          · replace H := H.1 z29
            refine fx_iconst d_TG_hasValues_110 ?_
            exact fx_end (some (.int (zI 0))) ⟨⟨_, rfl, rfl⟩, d_TG_hasValues_111⟩ (Nat.le_refl _) (Nat.le_refl _) rfl H
          · replace H := H.2 z29
            refine fx_iconst d_TG_hasValues_106 ?_
            refine fx_goto (n := 111) d_TG_hasValues_107 ?_
            exact fx_end (some (.int (zI 1))) ⟨⟨_, rfl, rfl⟩, d_TG_hasValues_111⟩ (Nat.le_refl _) (Nat.le_refl _) rfl H
      · replace H := H.2 z17
        refine fx_iconst d_TG_hasValues_61 ?_
        exact fx_end (some (.int (zI 0))) ⟨⟨_, rfl, rfl⟩, d_TG_hasValues_62⟩ (Nat.le_refl _) (Nat.le_refl _) rfl H
    · replace H := H.2 z10
      refine fx_lload d_TG_hasValues_35 rfl ?_
      refine fx_ldc2 (v := 4) d_TG_hasValues_37 (fx_in 387 (by decide +kernel) rfl) ?_
      refine fx_lcmp d_TG_hasValues_40 hz9 (show zRL 4 by decide) ?_
      refine fx_if_ne (t := 61) (n := 44) d_TG_hasValues_41 (zC_R _ _) (fun z30 => ?_) (fun z30 => ?_)
      · replace H := H.1 z30
        refine fx_iconst d_TG_hasValues_61 ?_
        exact fx_end (some (.int (zI 0))) ⟨⟨_, rfl, rfl⟩, d_TG_hasValues_62⟩ (Nat.le_refl _) (Nat.le_refl _) rfl H
      · replace H := H.2 z30
        refine fx_aload_n (i := 0) d_TG_hasValues_44 rfl rfl ?_
        refine fx_getR (q := 1) d_TG_hasValues_45 lk_TG_9 (at_11 (h := _) hS6) rfl rfl ?_
        refine fx_iload_n (i := 3) d_TG_hasValues_48 rfl rfl ?_
        refine fx_iconst d_TG_hasValues_49 ?_
        refine fx_iadd d_TG_hasValues_50 ?_
        refine fx_iconst d_TG_hasValues_51 ?_
        refine fx_callV (M' := M_BY_numberAt) (B' := (0, 0)) (vs := [.int (zI (r3 + 4)), .int (zI 4)]) (rest := []) (c1 := 0) (s1 := 0) (n := 55) d_TG_hasValues_52 ca_TG_hasValues_41 (at_1 (h := _) hS6) rfl rfl rfl ⟨by decide, by decide⟩ (Nat.le_of_ble_eq_true rfl) (Or.inl rfl) (fx_Mt.mono H fun v h31 hv => ?_)
        obtain ⟨r33, rfl, e32, H⟩ := hv
        have hS31 := e32.trans hS6
        show fx_V l M_TG_hasValues (0, 0) Q 0 0 55 [some (.ref 11), some (.int (zI n)), some (.int (zI x)), some (.int (zI r3)), some (.long (zL r8)), none, none] [.long (zL r33)] h31
        refine fx_iload_n (i := 2) d_TG_hasValues_55 rfl rfl ?_
        obtain ⟨hz34, H⟩ := H
        refine fx_i2l d_TG_hasValues_56 hz34 ?_
        obtain ⟨hz35, H⟩ := H
        obtain ⟨hz36, H⟩ := H
        refine fx_lcmp d_TG_hasValues_57 hz35 hz36 ?_
        refine fx_if_eq (t := 63) (n := 61) d_TG_hasValues_58 (zC_R _ _) (fun z37 => ?_) (fun z37 => ?_)
        · replace H := H.1 z37
          refine fx_iload_n (i := 2) d_TG_hasValues_63 rfl rfl ?_
          refine fx_aload_n (i := 0) d_TG_hasValues_64 rfl rfl ?_
          refine fx_iload_n (i := 3) d_TG_hasValues_65 rfl rfl ?_
          refine fx_callV (M' := M_TG_bytesOfValue) (B' := (0, 0)) (vs := [.int (zI r3)]) (rest := [.int (zI x)]) (c1 := 0) (s1 := 0) (n := 69) d_TG_hasValues_66 ca_TG_hasValues_114 (at_11 (h := _) hS31) rfl rfl rfl ⟨by decide, by decide⟩ (Nat.le_of_ble_eq_true rfl) (Or.inl rfl) (fx_Mt.mono H fun v h38 hv => ?_)
          obtain ⟨r40, rfl, e39, H⟩ := hv
          have hS38 := e39.trans hS31
          show fx_V l M_TG_hasValues (0, 0) Q 0 0 69 [some (.ref 11), some (.int (zI n)), some (.int (zI x)), some (.int (zI r3)), some (.long (zL r8)), none, none] [.int (zI r40), .int (zI x)] h38
          refine fx_imul d_TG_hasValues_69 ?_
          refine fx_istore (ls2 := [some (.ref 11), some (.int (zI n)), some (.int (zI x)), some (.int (zI r3)), some (.long (zL r8)), none, some (.int (zI (x * r40)))]) d_TG_hasValues_70 (by decide) rfl ?_
          refine fx_iload d_TG_hasValues_72 rfl ?_
          refine fx_iconst d_TG_hasValues_74 ?_
          obtain ⟨hz41, H⟩ := H
          refine fx_icmp_le (t := 106) (n := 78) d_TG_hasValues_75 hz41 (show zR 4 by decide) (fun z42 => ?_) (fun z42 => ?_)
          · replace H := H.1 z42
            refine fx_iconst d_TG_hasValues_106 ?_
            refine fx_goto (n := 111) d_TG_hasValues_107 ?_
            exact fx_end (some (.int (zI 1))) ⟨⟨_, rfl, rfl⟩, d_TG_hasValues_111⟩ (Nat.le_refl _) (Nat.le_refl _) rfl H
          · replace H := H.2 z42
            refine fx_aload_n (i := 0) d_TG_hasValues_78 rfl rfl ?_
            refine fx_getR (q := 1) d_TG_hasValues_79 lk_TG_9 (at_11 (h := _) hS38) rfl rfl ?_
            refine fx_iload_n (i := 3) d_TG_hasValues_82 rfl rfl ?_
            refine fx_bipush (v := 8) d_TG_hasValues_83 rfl ?_
            refine fx_iadd d_TG_hasValues_85 ?_
            refine fx_iconst d_TG_hasValues_86 ?_
            refine fx_callV (M' := M_BY_numberAt) (B' := (0, 0)) (vs := [.int (zI (r3 + 8)), .int (zI 4)]) (rest := []) (c1 := 0) (s1 := 0) (n := 90) d_TG_hasValues_87 ca_TG_hasValues_41 (at_1 (h := _) hS38) rfl rfl rfl ⟨by decide, by decide⟩ (Nat.le_of_ble_eq_true rfl) (Or.inl rfl) (fx_Mt.mono H fun v h43 hv => ?_)
            obtain ⟨r45, rfl, e44, H⟩ := hv
            have hS43 := e44.trans hS38
            show fx_V l M_TG_hasValues (0, 0) Q 0 0 90 [some (.ref 11), some (.int (zI n)), some (.int (zI x)), some (.int (zI r3)), some (.long (zL r8)), none, some (.int (zI (x * r40)))] [.long (zL r45)] h43
            refine fx_iload d_TG_hasValues_90 rfl ?_
            refine fx_i2l d_TG_hasValues_92 hz41 ?_
            refine fx_ladd d_TG_hasValues_93 ?_
            refine fx_aload_n (i := 0) d_TG_hasValues_94 rfl rfl ?_
            refine fx_getR (q := 1) d_TG_hasValues_95 lk_TG_9 (at_11 (h := _) hS43) rfl rfl ?_
            refine fx_getI d_TG_hasValues_98 lk_TG_49 (at_1 (h := _) hS43) rfl ?_
            obtain ⟨hz46, H⟩ := H
            refine fx_i2l d_TG_hasValues_101 hz46 ?_
            obtain ⟨hz47, H⟩ := H
            obtain ⟨hz48, H⟩ := H
            refine fx_lcmp d_TG_hasValues_102 hz47 hz48 ?_
            refine fx_if_gt (t := 110) (n := 106) d_TG_hasValues_103 (zC_R _ _) (fun z49 => ?_) (fun z49 => ?_)
            · replace H := H.1 z49
              refine fx_iconst d_TG_hasValues_110 ?_
              exact fx_end (some (.int (zI 0))) ⟨⟨_, rfl, rfl⟩, d_TG_hasValues_111⟩ (Nat.le_refl _) (Nat.le_refl _) rfl H
            · replace H := H.2 z49
              refine fx_iconst d_TG_hasValues_106 ?_
              refine fx_goto (n := 111) d_TG_hasValues_107 ?_
              exact fx_end (some (.int (zI 1))) ⟨⟨_, rfl, rfl⟩, d_TG_hasValues_111⟩ (Nat.le_refl _) (Nat.le_refl _) rfl H
        · replace H := H.2 z37
          refine fx_iconst d_TG_hasValues_61 ?_
          exact fx_end (some (.int (zI 0))) ⟨⟨_, rfl, rfl⟩, d_TG_hasValues_62⟩ (Nat.le_refl _) (Nat.le_refl _) rfl H
  · replace H := H.2 z5
    refine fx_iconst d_TG_hasValues_11 ?_
    exact fx_end (some (.int (zI 0))) ⟨⟨_, rfl, rfl⟩, d_TG_hasValues_12⟩ (Nat.le_refl _) (Nat.le_refl _) rfl H

set_option maxRecDepth 100000 in
set_option maxHeartbeats 4000000 in
theorem e_TG_onlyValue {l : Launch} {Q : Option Value → fx_H → Prop} {h : fx_H}  {n : Int}  {a : Nat → Nat} {pp dd : Nat} (hS : h.1 = fx_S0 a pp dd) 
    (H : fx_Mt l M_TG_hasValues (0, 0) [.ref 11, .int (zI n), .int (zI 1)] h (fun v h1 => ∃ r3 : Int, v = some (.int (zI r3)) ∧ h1.1 = h.1 ∧ zR r3 ∧ ((r3 = 0 → Q (some (.long (zL (-1)))) h1) ∧ (¬ (r3 = 0) → fx_Mt l M_TG_valueOf (0, 0) [.ref 11, .int (zI n), .int (zI 0)] h1 (fun v h6 => ∃ r8 : Int, v = some (.long (zL r8)) ∧ h6.1 = h1.1 ∧ Q (some (.long (zL r8))) h6))))) :
    fx_Mt l M_TG_onlyValue (0, 0) [.ref 11, .int (zI n)] h Q := by
  refine fx_entry (ls := [some (.ref 11), some (.int (zI n))]) (by decide) (Nat.le_of_ble_eq_true rfl) rfl ?_
  refine fx_aload_n (i := 0) d_TG_onlyValue_0 rfl rfl ?_
  refine fx_iload_n (i := 1) d_TG_onlyValue_1 rfl rfl ?_
  refine fx_iconst d_TG_onlyValue_2 ?_
  refine fx_callV (M' := M_TG_hasValues) (B' := (0, 0)) (vs := [.int (zI n), .int (zI 1)]) (rest := []) (c1 := 0) (s1 := 0) (n := 6) d_TG_onlyValue_3 ca_TG_onlyValue_101 (at_11 (h := _) hS) rfl rfl rfl ⟨by decide, by decide⟩ (Nat.le_of_ble_eq_true rfl) (Or.inl rfl) (fx_Mt.mono H fun v h1 hv => ?_)
  obtain ⟨r3, rfl, e2, H⟩ := hv
  have hS1 := e2.trans hS
  show fx_V l M_TG_onlyValue (0, 0) Q 0 0 6 [some (.ref 11), some (.int (zI n))] [.int (zI r3)] h1
  obtain ⟨hz4, H⟩ := H
  refine fx_if_eq (t := 18) (n := 9) d_TG_onlyValue_6 hz4 (fun z5 => ?_) (fun z5 => ?_)
  · replace H := H.1 z5
    refine fx_ldc2 (v := -1) d_TG_onlyValue_18 (fx_in 396 (by decide +kernel) rfl) ?_
    exact fx_end (some (.long (zL (-1)))) ⟨rfl, d_TG_onlyValue_21⟩ (Nat.le_refl _) (Nat.le_refl _) rfl H
  · replace H := H.2 z5
    refine fx_aload_n (i := 0) d_TG_onlyValue_9 rfl rfl ?_
    refine fx_iload_n (i := 1) d_TG_onlyValue_10 rfl rfl ?_
    refine fx_iconst d_TG_onlyValue_11 ?_
    refine fx_callV (M' := M_TG_valueOf) (B' := (0, 0)) (vs := [.int (zI n), .int (zI 0)]) (rest := []) (c1 := 0) (s1 := 0) (n := 15) d_TG_onlyValue_12 ca_TG_onlyValue_105 (at_11 (h := _) hS1) rfl rfl rfl ⟨by decide, by decide⟩ (Nat.le_of_ble_eq_true rfl) (Or.inl rfl) (fx_Mt.mono H fun v h6 hv => ?_)
    obtain ⟨r8, rfl, e7, H⟩ := hv
    have hS6 := e7.trans hS1
    show fx_V l M_TG_onlyValue (0, 0) Q 0 0 15 [some (.ref 11), some (.int (zI n))] [.long (zL r8)] h6
    refine fx_goto (n := 21) d_TG_onlyValue_15 ?_
    exact fx_end (some (.long (zL r8))) ⟨rfl, d_TG_onlyValue_21⟩ (Nat.le_refl _) (Nat.le_refl _) rfl H

set_option maxRecDepth 100000 in
set_option maxHeartbeats 4000000 in
theorem e_TG_findTags {l : Launch} {Q : Option Value → fx_H → Prop} {h : fx_H}    {a : Nat → Nat} {pp dd : Nat} (hS : h.1 = fx_S0 a pp dd) 
    (H : fx_Mt l M_AR_fill (0, 0) [.ref 12, .int (zI (-1))] h (fun v h1 => v = none ∧ h1.1 = h.1 ∧ fx_Mt l M_BY_numberAt (0, 0) [.ref 1, .int (zI 4), .int (zI 4)] h1 (fun v h3 => ∃ r5 : Int, v = some (.long (zL r5)) ∧ h3.1 = h1.1 ∧ zR (h3.2.1 1 1) ∧ zRL (r5 + 2) ∧ zRL (h3.2.1 1 1) ∧ (((zC (r5 + 2) (h3.2.1 1 1)) ≤ 0 → fx_Mt l M_BY_numberAt (0, 0) [.ref 1, .int (zI r5), .int (zI 2)] h3 (fun v h10 => ∃ r12 : Int, v = some (.long (zL r12)) ∧ h10.1 = h3.1 ∧ zR (((r5 + 2) + (r12 * 12)) + 4) ∧ zR (h10.2.1 1 1) ∧ (((h10.2.1 1 1) < (((r5 + 2) + (r12 * 12)) + 4) → Q (some (.int (zI 0))) h10) ∧ (¬ ((h10.2.1 1 1) < (((r5 + 2) + (r12 * 12)) + 4)) → fx_Mt l M_BY_numberAt (0, 0) [.ref 1, .int (zI ((r5 + 2) + (r12 * 12))), .int (zI 4)] h10 (fun v h16 => ∃ r18 : Int, v = some (.long (zL r18)) ∧ h16.1 = h10.1 ∧ zRL r18 ∧ (((zC r18 0) = 0 → (fx_V l M_TG_findTags (0, 0) Q 0 0 101 [some (.ref 11), none, none, some (.int (zI r12)), some (.int (zI (r5 + 2))), none, some (.int (zI (-1))), some (.int (zI 0)), none] [] h16)) ∧ (¬ ((zC r18 0) = 0) → Q (some (.int (zI 0))) h16))))))) ∧ (¬ ((zC (r5 + 2) (h3.2.1 1 1)) ≤ 0) → Q (some (.int (zI 0))) h3))))) :
    fx_Mt l M_TG_findTags (0, 0) [.ref 11] h Q := by
  refine fx_entry (ls := [some (.ref 11), none, none, none, none, none, none, none, none]) (by decide) (Nat.le_of_ble_eq_true rfl) rfl ?_
  refine fx_aload_n (i := 0) d_TG_findTags_0 rfl rfl ?_
  refine fx_getR (q := 12) d_TG_findTags_1 lk_TG_19 (at_11 (h := _) hS) rfl rfl ?_
  refine fx_iconst d_TG_findTags_4 ?_
  refine fx_callS (M' := M_AR_fill) (B' := (0, 0)) (vs := [.ref 12, .int (zI (-1))]) (rest := []) (c1 := 0) (s1 := 0) (n := 8) d_TG_findTags_5 ca_TG_findTags_35 rfl rfl ⟨by decide, by decide⟩ (Nat.le_of_ble_eq_true rfl) (Or.inl rfl) (fx_Mt.mono H fun v h1 hv => ?_)
  obtain ⟨rfl, e2, H⟩ := hv
  have hS1 := e2.trans hS
  show fx_V l M_TG_findTags (0, 0) Q 0 0 8 [some (.ref 11), none, none, none, none, none, none, none, none] [] h1
  refine fx_aload_n (i := 0) d_TG_findTags_8 rfl rfl ?_
  refine fx_getR (q := 1) d_TG_findTags_9 lk_TG_9 (at_11 (h := _) hS1) rfl rfl ?_
  refine fx_iconst d_TG_findTags_12 ?_
  refine fx_iconst d_TG_findTags_13 ?_
  refine fx_callV (M' := M_BY_numberAt) (B' := (0, 0)) (vs := [.int (zI 4), .int (zI 4)]) (rest := []) (c1 := 0) (s1 := 0) (n := 17) d_TG_findTags_14 ca_TG_findTags_41 (at_1 (h := _) hS1) rfl rfl rfl ⟨by decide, by decide⟩ (Nat.le_of_ble_eq_true rfl) (Or.inl rfl) (fx_Mt.mono H fun v h3 hv => ?_)
  obtain ⟨r5, rfl, e4, H⟩ := hv
  have hS3 := e4.trans hS1
  show fx_V l M_TG_findTags (0, 0) Q 0 0 17 [some (.ref 11), none, none, none, none, none, none, none, none] [.long (zL r5)] h3
  refine fx_lstore_n (i := 1) (ls2 := [some (.ref 11), some (.long (zL r5)), none, none, none, none, none, none, none]) d_TG_findTags_17 rfl (by decide) rfl ?_
  refine fx_lload_n (i := 1) d_TG_findTags_18 rfl rfl ?_
  refine fx_ldc2 (v := 2) d_TG_findTags_19 (fx_in 365 (by decide +kernel) rfl) ?_
  refine fx_ladd d_TG_findTags_22 ?_
  refine fx_aload_n (i := 0) d_TG_findTags_23 rfl rfl ?_
  refine fx_getR (q := 1) d_TG_findTags_24 lk_TG_9 (at_11 (h := _) hS3) rfl rfl ?_
  refine fx_getI d_TG_findTags_27 lk_TG_49 (at_1 (h := _) hS3) rfl ?_
  obtain ⟨hz6, H⟩ := H
  refine fx_i2l d_TG_findTags_30 hz6 ?_
  obtain ⟨hz7, H⟩ := H
  obtain ⟨hz8, H⟩ := H
  refine fx_lcmp d_TG_findTags_31 hz7 hz8 ?_
  refine fx_if_le (t := 37) (n := 35) d_TG_findTags_32 (zC_R _ _) (fun z9 => ?_) (fun z9 => ?_)
  · replace H := H.1 z9
    refine fx_aload_n (i := 0) d_TG_findTags_37 rfl rfl ?_
    refine fx_getR (q := 1) d_TG_findTags_38 lk_TG_9 (at_11 (h := _) hS3) rfl rfl ?_
    refine fx_lload_n (i := 1) d_TG_findTags_41 rfl rfl ?_
    refine fx_l2i d_TG_findTags_42 ?_
    refine fx_iconst d_TG_findTags_43 ?_
    refine fx_callV (M' := M_BY_numberAt) (B' := (0, 0)) (vs := [.int (zI r5), .int (zI 2)]) (rest := []) (c1 := 0) (s1 := 0) (n := 47) d_TG_findTags_44 ca_TG_findTags_41 (at_1 (h := _) hS3) rfl rfl rfl ⟨by decide, by decide⟩ (Nat.le_of_ble_eq_true rfl) (Or.inl rfl) (fx_Mt.mono H fun v h10 hv => ?_)
    obtain ⟨r12, rfl, e11, H⟩ := hv
    have hS10 := e11.trans hS3
    show fx_V l M_TG_findTags (0, 0) Q 0 0 47 [some (.ref 11), some (.long (zL r5)), none, none, none, none, none, none, none] [.long (zL r12)] h10
    refine fx_l2i d_TG_findTags_47 ?_
    refine fx_istore_n (i := 3) (ls2 := [some (.ref 11), some (.long (zL r5)), none, some (.int (zI r12)), none, none, none, none, none]) d_TG_findTags_48 rfl (by decide) rfl ?_
    refine fx_lload_n (i := 1) d_TG_findTags_49 rfl rfl ?_
    refine fx_l2i d_TG_findTags_50 ?_
    refine fx_iconst d_TG_findTags_51 ?_
    refine fx_iadd d_TG_findTags_52 ?_
    refine fx_istore (ls2 := [some (.ref 11), some (.long (zL r5)), none, some (.int (zI r12)), some (.int (zI (r5 + 2))), none, none, none, none]) d_TG_findTags_53 (by decide) rfl ?_
    refine fx_iload d_TG_findTags_55 rfl ?_
    refine fx_iload_n (i := 3) d_TG_findTags_57 rfl rfl ?_
    refine fx_bipush (v := 12) d_TG_findTags_58 rfl ?_
    refine fx_imul d_TG_findTags_60 ?_
    refine fx_iadd d_TG_findTags_61 ?_
    refine fx_istore (ls2 := [some (.ref 11), some (.long (zL r5)), none, some (.int (zI r12)), some (.int (zI (r5 + 2))), some (.int (zI ((r5 + 2) + (r12 * 12)))), none, none, none]) d_TG_findTags_62 (by decide) rfl ?_
    refine fx_iload d_TG_findTags_64 rfl ?_
    refine fx_iconst d_TG_findTags_66 ?_
    refine fx_iadd d_TG_findTags_67 ?_
    refine fx_aload_n (i := 0) d_TG_findTags_68 rfl rfl ?_
    refine fx_getR (q := 1) d_TG_findTags_69 lk_TG_9 (at_11 (h := _) hS10) rfl rfl ?_
    refine fx_getI d_TG_findTags_72 lk_TG_49 (at_1 (h := _) hS10) rfl ?_
    obtain ⟨hz13, H⟩ := H
    obtain ⟨hz14, H⟩ := H
    refine fx_icmp_gt (t := 93) (n := 78) d_TG_findTags_75 hz13 hz14 (fun z15 => ?_) (fun z15 => ?_)
    · replace H := H.1 z15
      refine fx_iconst d_TG_findTags_93 ?_
      exact fx_end (some (.int (zI 0))) ⟨⟨_, rfl, rfl⟩, d_TG_findTags_94⟩ (Nat.le_refl _) (Nat.le_refl _) rfl H
    · replace H := H.2 z15
      refine fx_aload_n (i := 0) d_TG_findTags_78 rfl rfl ?_
      refine fx_getR (q := 1) d_TG_findTags_79 lk_TG_9 (at_11 (h := _) hS10) rfl rfl ?_
      refine fx_iload d_TG_findTags_82 rfl ?_
      refine fx_iconst d_TG_findTags_84 ?_
      refine fx_callV (M' := M_BY_numberAt) (B' := (0, 0)) (vs := [.int (zI ((r5 + 2) + (r12 * 12))), .int (zI 4)]) (rest := []) (c1 := 0) (s1 := 0) (n := 88) d_TG_findTags_85 ca_TG_findTags_41 (at_1 (h := _) hS10) rfl rfl rfl ⟨by decide, by decide⟩ (Nat.le_of_ble_eq_true rfl) (Or.inl rfl) (fx_Mt.mono H fun v h16 hv => ?_)
      obtain ⟨r18, rfl, e17, H⟩ := hv
      have hS16 := e17.trans hS10
      show fx_V l M_TG_findTags (0, 0) Q 0 0 88 [some (.ref 11), some (.long (zL r5)), none, some (.int (zI r12)), some (.int (zI (r5 + 2))), some (.int (zI ((r5 + 2) + (r12 * 12)))), none, none, none] [.long (zL r18)] h16
      refine fx_lconst (v := 0) d_TG_findTags_88 rfl ?_
      obtain ⟨hz19, H⟩ := H
      refine fx_lcmp d_TG_findTags_89 hz19 (show zRL 0 by decide) ?_
      refine fx_if_eq (t := 95) (n := 93) d_TG_findTags_90 (zC_R _ _) (fun z20 => ?_) (fun z20 => ?_)
      · replace H := H.1 z20
        refine fx_iconst d_TG_findTags_95 ?_
        refine fx_istore (ls2 := [some (.ref 11), some (.long (zL r5)), none, some (.int (zI r12)), some (.int (zI (r5 + 2))), some (.int (zI ((r5 + 2) + (r12 * 12)))), some (.int (zI (-1))), none, none]) d_TG_findTags_96 (by decide) rfl ?_
        refine fx_iconst d_TG_findTags_98 ?_
        refine fx_istore (ls2 := [some (.ref 11), some (.long (zL r5)), none, some (.int (zI r12)), some (.int (zI (r5 + 2))), some (.int (zI ((r5 + 2) + (r12 * 12)))), some (.int (zI (-1))), some (.int (zI 0)), none]) d_TG_findTags_99 (by decide) rfl ?_
        exact fx_fewer [some (.ref 11), none, none, some (.int (zI r12)), some (.int (zI (r5 + 2))), none, some (.int (zI (-1))), some (.int (zI 0)), none] ⟨rfl, rfl, rfl, rfl, rfl, trivial⟩ H
      · replace H := H.2 z20
        refine fx_iconst d_TG_findTags_93 ?_
        exact fx_end (some (.int (zI 0))) ⟨⟨_, rfl, rfl⟩, d_TG_findTags_94⟩ (Nat.le_refl _) (Nat.le_refl _) rfl H
  · replace H := H.2 z9
    refine fx_iconst d_TG_findTags_35 ?_
    exact fx_end (some (.int (zI 0))) ⟨⟨_, rfl, rfl⟩, d_TG_findTags_36⟩ (Nat.le_refl _) (Nat.le_refl _) rfl H

set_option maxRecDepth 100000 in
set_option maxHeartbeats 4000000 in
theorem w_TG_findTags_101 {l : Launch} {Q : Option Value → fx_H → Prop} {h : fx_H}  {x3 : Int} {x4 : Int} {x6 : Int} {x7 : Int}  {a : Nat → Nat} {pp dd : Nat} (hS : h.1 = fx_S0 a pp dd) 
    (H : zR x7 ∧ zR x3 ∧ ((x3 ≤ x7 → Q (some (.int (zI 1))) h) ∧ (¬ (x3 ≤ x7) → fx_Mt l M_BY_numberAt (0, 0) [.ref 1, .int (zI (x4 + (x7 * 12))), .int (zI 2)] h (fun v h4 => ∃ r6 : Int, v = some (.long (zL r6)) ∧ h4.1 = h.1 ∧ zR r6 ∧ zR x6 ∧ ((x6 < r6 → fx_Mt l M_TG_note (0, 0) [.ref 11, .int (zI r6), .int (zI (x4 + (x7 * 12)))] h4 (fun v h10 => v = none ∧ h10.1 = h4.1 ∧ (fx_V l M_TG_findTags (0, 0) Q 0 0 101 [some (.ref 11), none, none, some (.int (zI x3)), some (.int (zI x4)), none, some (.int (zI r6)), some (.int (zI (x7 + 1))), none] [] h10))) ∧ (¬ (x6 < r6) → Q (some (.int (zI 0))) h4)))))) :
    fx_V l M_TG_findTags (0, 0) Q 0 0 101 [some (.ref 11), none, none, some (.int (zI x3)), some (.int (zI x4)), none, some (.int (zI x6)), some (.int (zI x7)), none] [] h := by
  refine fx_iload d_TG_findTags_101 rfl ?_
  refine fx_iload_n (i := 3) d_TG_findTags_103 rfl rfl ?_
  obtain ⟨hz1, H⟩ := H
  obtain ⟨hz2, H⟩ := H
  refine fx_icmp_ge (t := 159) (n := 107) d_TG_findTags_104 hz1 hz2 (fun z3 => ?_) (fun z3 => ?_)
  · replace H := H.1 z3
    refine fx_iconst d_TG_findTags_159 ?_
    exact fx_end (some (.int (zI 1))) ⟨⟨_, rfl, rfl⟩, d_TG_findTags_160⟩ (Nat.le_refl _) (Nat.le_refl _) rfl H
  · replace H := H.2 z3
    refine fx_aload_n (i := 0) d_TG_findTags_107 rfl rfl ?_
    refine fx_getR (q := 1) d_TG_findTags_108 lk_TG_9 (at_11 (h := _) hS) rfl rfl ?_
    refine fx_iload d_TG_findTags_111 rfl ?_
    refine fx_iload d_TG_findTags_113 rfl ?_
    refine fx_bipush (v := 12) d_TG_findTags_115 rfl ?_
    refine fx_imul d_TG_findTags_117 ?_
    refine fx_iadd d_TG_findTags_118 ?_
    refine fx_iconst d_TG_findTags_119 ?_
    refine fx_callV (M' := M_BY_numberAt) (B' := (0, 0)) (vs := [.int (zI (x4 + (x7 * 12))), .int (zI 2)]) (rest := []) (c1 := 0) (s1 := 0) (n := 123) d_TG_findTags_120 ca_TG_findTags_41 (at_1 (h := _) hS) rfl rfl rfl ⟨by decide, by decide⟩ (Nat.le_of_ble_eq_true rfl) (Or.inl rfl) (fx_Mt.mono H fun v h4 hv => ?_)
    obtain ⟨r6, rfl, e5, H⟩ := hv
    have hS4 := e5.trans hS
    show fx_V l M_TG_findTags (0, 0) Q 0 0 123 [some (.ref 11), none, none, some (.int (zI x3)), some (.int (zI x4)), none, some (.int (zI x6)), some (.int (zI x7)), none] [.long (zL r6)] h4
    refine fx_l2i d_TG_findTags_123 ?_
    refine fx_istore (ls2 := [some (.ref 11), none, none, some (.int (zI x3)), some (.int (zI x4)), none, some (.int (zI x6)), some (.int (zI x7)), some (.int (zI r6))]) d_TG_findTags_124 (by decide) rfl ?_
    refine fx_iload d_TG_findTags_126 rfl ?_
    refine fx_iload d_TG_findTags_128 rfl ?_
    obtain ⟨hz7, H⟩ := H
    obtain ⟨hz8, H⟩ := H
    refine fx_icmp_gt (t := 135) (n := 133) d_TG_findTags_130 hz7 hz8 (fun z9 => ?_) (fun z9 => ?_)
    · replace H := H.1 z9
      refine fx_aload_n (i := 0) d_TG_findTags_135 rfl rfl ?_
      refine fx_iload d_TG_findTags_136 rfl ?_
      refine fx_iload d_TG_findTags_138 rfl ?_
      refine fx_iload d_TG_findTags_140 rfl ?_
      refine fx_bipush (v := 12) d_TG_findTags_142 rfl ?_
      refine fx_imul d_TG_findTags_144 ?_
      refine fx_iadd d_TG_findTags_145 ?_
      refine fx_callV (M' := M_TG_note) (B' := (0, 0)) (vs := [.int (zI r6), .int (zI (x4 + (x7 * 12)))]) (rest := []) (c1 := 0) (s1 := 0) (n := 149) d_TG_findTags_146 ca_TG_findTags_53 (at_11 (h := _) hS4) rfl rfl rfl ⟨by decide, by decide⟩ (Nat.le_of_ble_eq_true rfl) (Or.inl rfl) (fx_Mt.mono H fun v h10 hv => ?_)
      obtain ⟨rfl, e11, H⟩ := hv
      have hS10 := e11.trans hS4
      show fx_V l M_TG_findTags (0, 0) Q 0 0 149 [some (.ref 11), none, none, some (.int (zI x3)), some (.int (zI x4)), none, some (.int (zI x6)), some (.int (zI x7)), some (.int (zI r6))] [] h10
      refine fx_iload d_TG_findTags_149 rfl ?_
      refine fx_istore (ls2 := [some (.ref 11), none, none, some (.int (zI x3)), some (.int (zI x4)), none, some (.int (zI r6)), some (.int (zI x7)), some (.int (zI r6))]) d_TG_findTags_151 (by decide) rfl ?_
      refine fx_iinc (v := x7 + 1) (ls2 := [some (.ref 11), none, none, some (.int (zI x3)), some (.int (zI x4)), none, some (.int (zI r6)), some (.int (zI (x7 + 1))), some (.int (zI r6))]) d_TG_findTags_153 rfl rfl (by decide) rfl ?_
      refine fx_goto (n := 101) d_TG_findTags_156 ?_
      exact fx_fewer [some (.ref 11), none, none, some (.int (zI x3)), some (.int (zI x4)), none, some (.int (zI r6)), some (.int (zI (x7 + 1))), none] ⟨rfl, rfl, rfl, rfl, rfl, trivial⟩ H
    · replace H := H.2 z9
      refine fx_iconst d_TG_findTags_133 ?_
      exact fx_end (some (.int (zI 0))) ⟨⟨_, rfl, rfl⟩, d_TG_findTags_134⟩ (Nat.le_refl _) (Nat.le_refl _) rfl H

set_option maxRecDepth 100000 in
set_option maxHeartbeats 4000000 in
theorem e_TG_understandPicture {l : Launch} {Q : Option Value → fx_H → Prop} {h : fx_H}    {a : Nat → Nat} {pp dd : Nat} (hS : h.1 = fx_S0 a pp dd) 
    (H : fx_Mt l M_TG_onlyValue (0, 0) [.ref 11, .int (zI 258)] h (fun v h1 => ∃ r3 : Int, v = some (.long (zL r3)) ∧ h1.1 = h.1 ∧ fx_Mt l M_TG_onlyValue (0, 0) [.ref 11, .int (zI 256)] h1 (fun v h4 => ∃ r6 : Int, v = some (.long (zL r6)) ∧ h4.1 = h1.1 ∧ fx_Mt l M_TG_onlyValue (0, 0) [.ref 11, .int (zI 257)] h4 (fun v h7 => ∃ r9 : Int, v = some (.long (zL r9)) ∧ h7.1 = h4.1 ∧ zRL r3 ∧ ((¬ (zC r3 8) = 0 → (((zC r3 1) = 0 → fx_Mt l M_TG_onlyValue (0, 0) [.ref 11, .int (zI 262)] (fx_uF h7 11 2 0) (fun v h13 => ∃ r15 : Int, v = some (.long (zL r15)) ∧ h13.1 = (fx_uF h7 11 2 0).1 ∧ zR (h13.2.1 11 2) ∧ (((h13.2.1 11 2) = 0 → zRL r15 ∧ ((¬ (zC r15 0) = 0 → Q (some (.int (zI 0))) h13) ∧ ((zC r15 0) = 0 → fx_Mt l M_FP_sizeCanBe (0, 0) [.int (zI (h13.2.1 11 2)), .long (zL r6), .long (zL r9)] h13 (fun v h20 => ∃ r22 : Int, v = some (.int (zI r22)) ∧ h20.1 = h13.1 ∧ zR r22 ∧ ((¬ r22 = 0 → Q (some (.int (zI 1))) (fx_uF (fx_uF h20 11 3 r6) 11 4 r9)) ∧ (r22 = 0 → Q (some (.int (zI 0))) h20)))))) ∧ (¬ ((h13.2.1 11 2) = 0) → zRL r15 ∧ ((¬ (zC r15 1) = 0 → Q (some (.int (zI 0))) h13) ∧ ((zC r15 1) = 0 → fx_Mt l M_FP_sizeCanBe (0, 0) [.int (zI (h13.2.1 11 2)), .long (zL r6), .long (zL r9)] h13 (fun v h27 => ∃ r29 : Int, v = some (.int (zI r29)) ∧ h27.1 = h13.1 ∧ zR r29 ∧ ((¬ r29 = 0 → Q (some (.int (zI 1))) (fx_uF (fx_uF h27 11 3 r6) 11 4 r9)) ∧ (r29 = 0 → Q (some (.int (zI 0))) h27))))))))) ∧ (¬ ((zC r3 1) = 0) → ((¬ (zC r3 8) = 0 → Q (some (.int (zI 0))) (fx_uF h7 11 2 0)) ∧ ((zC r3 8) = 0 → fx_Mt l M_TG_onlyValue (0, 0) [.ref 11, .int (zI 262)] (fx_uF h7 11 2 0) (fun v h33 => ∃ r35 : Int, v = some (.long (zL r35)) ∧ h33.1 = (fx_uF h7 11 2 0).1 ∧ zR (h33.2.1 11 2) ∧ (((h33.2.1 11 2) = 0 → zRL r35 ∧ ((¬ (zC r35 0) = 0 → Q (some (.int (zI 0))) h33) ∧ ((zC r35 0) = 0 → fx_Mt l M_FP_sizeCanBe (0, 0) [.int (zI (h33.2.1 11 2)), .long (zL r6), .long (zL r9)] h33 (fun v h40 => ∃ r42 : Int, v = some (.int (zI r42)) ∧ h40.1 = h33.1 ∧ zR r42 ∧ ((¬ r42 = 0 → Q (some (.int (zI 1))) (fx_uF (fx_uF h40 11 3 r6) 11 4 r9)) ∧ (r42 = 0 → Q (some (.int (zI 0))) h40)))))) ∧ (¬ ((h33.2.1 11 2) = 0) → zRL r35 ∧ ((¬ (zC r35 1) = 0 → Q (some (.int (zI 0))) h33) ∧ ((zC r35 1) = 0 → fx_Mt l M_FP_sizeCanBe (0, 0) [.int (zI (h33.2.1 11 2)), .long (zL r6), .long (zL r9)] h33 (fun v h47 => ∃ r49 : Int, v = some (.int (zI r49)) ∧ h47.1 = h33.1 ∧ zR r49 ∧ ((¬ r49 = 0 → Q (some (.int (zI 1))) (fx_uF (fx_uF h47 11 3 r6) 11 4 r9)) ∧ (r49 = 0 → Q (some (.int (zI 0))) h47))))))))))))) ∧ ((zC r3 8) = 0 → (((zC r3 1) = 0 → fx_Mt l M_TG_onlyValue (0, 0) [.ref 11, .int (zI 262)] (fx_uF h7 11 2 1) (fun v h53 => ∃ r55 : Int, v = some (.long (zL r55)) ∧ h53.1 = (fx_uF h7 11 2 1).1 ∧ zR (h53.2.1 11 2) ∧ (((h53.2.1 11 2) = 0 → zRL r55 ∧ ((¬ (zC r55 0) = 0 → Q (some (.int (zI 0))) h53) ∧ ((zC r55 0) = 0 → fx_Mt l M_FP_sizeCanBe (0, 0) [.int (zI (h53.2.1 11 2)), .long (zL r6), .long (zL r9)] h53 (fun v h60 => ∃ r62 : Int, v = some (.int (zI r62)) ∧ h60.1 = h53.1 ∧ zR r62 ∧ ((¬ r62 = 0 → Q (some (.int (zI 1))) (fx_uF (fx_uF h60 11 3 r6) 11 4 r9)) ∧ (r62 = 0 → Q (some (.int (zI 0))) h60)))))) ∧ (¬ ((h53.2.1 11 2) = 0) → zRL r55 ∧ ((¬ (zC r55 1) = 0 → Q (some (.int (zI 0))) h53) ∧ ((zC r55 1) = 0 → fx_Mt l M_FP_sizeCanBe (0, 0) [.int (zI (h53.2.1 11 2)), .long (zL r6), .long (zL r9)] h53 (fun v h67 => ∃ r69 : Int, v = some (.int (zI r69)) ∧ h67.1 = h53.1 ∧ zR r69 ∧ ((¬ r69 = 0 → Q (some (.int (zI 1))) (fx_uF (fx_uF h67 11 3 r6) 11 4 r9)) ∧ (r69 = 0 → Q (some (.int (zI 0))) h67))))))))) ∧ (¬ ((zC r3 1) = 0) → ((¬ (zC r3 8) = 0 → Q (some (.int (zI 0))) (fx_uF h7 11 2 1)) ∧ ((zC r3 8) = 0 → fx_Mt l M_TG_onlyValue (0, 0) [.ref 11, .int (zI 262)] (fx_uF h7 11 2 1) (fun v h73 => ∃ r75 : Int, v = some (.long (zL r75)) ∧ h73.1 = (fx_uF h7 11 2 1).1 ∧ zR (h73.2.1 11 2) ∧ (((h73.2.1 11 2) = 0 → zRL r75 ∧ ((¬ (zC r75 0) = 0 → Q (some (.int (zI 0))) h73) ∧ ((zC r75 0) = 0 → fx_Mt l M_FP_sizeCanBe (0, 0) [.int (zI (h73.2.1 11 2)), .long (zL r6), .long (zL r9)] h73 (fun v h80 => ∃ r82 : Int, v = some (.int (zI r82)) ∧ h80.1 = h73.1 ∧ zR r82 ∧ ((¬ r82 = 0 → Q (some (.int (zI 1))) (fx_uF (fx_uF h80 11 3 r6) 11 4 r9)) ∧ (r82 = 0 → Q (some (.int (zI 0))) h80)))))) ∧ (¬ ((h73.2.1 11 2) = 0) → zRL r75 ∧ ((¬ (zC r75 1) = 0 → Q (some (.int (zI 0))) h73) ∧ ((zC r75 1) = 0 → fx_Mt l M_FP_sizeCanBe (0, 0) [.int (zI (h73.2.1 11 2)), .long (zL r6), .long (zL r9)] h73 (fun v h87 => ∃ r89 : Int, v = some (.int (zI r89)) ∧ h87.1 = h73.1 ∧ zR r89 ∧ ((¬ r89 = 0 → Q (some (.int (zI 1))) (fx_uF (fx_uF h87 11 3 r6) 11 4 r9)) ∧ (r89 = 0 → Q (some (.int (zI 0))) h87)))))))))))))))))) :
    fx_Mt l M_TG_understandPicture (0, 0) [.ref 11] h Q := by
  refine fx_entry (ls := [some (.ref 11), none, none, none, none, none, none]) (by decide) (Nat.le_of_ble_eq_true rfl) rfl ?_
  refine fx_aload_n (i := 0) d_TG_understandPicture_0 rfl rfl ?_
  refine fx_sipush (v := 258) d_TG_understandPicture_1 rfl ?_
  refine fx_callV (M' := M_TG_onlyValue) (B' := (0, 0)) (vs := [.int (zI 258)]) (rest := []) (c1 := 0) (s1 := 0) (n := 7) d_TG_understandPicture_4 ca_TG_understandPicture_57 (at_11 (h := _) hS) rfl rfl rfl ⟨by decide, by decide⟩ (Nat.le_of_ble_eq_true rfl) (Or.inl rfl) (fx_Mt.mono H fun v h1 hv => ?_)
  obtain ⟨r3, rfl, e2, H⟩ := hv
  have hS1 := e2.trans hS
  show fx_V l M_TG_understandPicture (0, 0) Q 0 0 7 [some (.ref 11), none, none, none, none, none, none] [.long (zL r3)] h1
  refine fx_lstore_n (i := 1) (ls2 := [some (.ref 11), some (.long (zL r3)), none, none, none, none, none]) d_TG_understandPicture_7 rfl (by decide) rfl ?_
  refine fx_aload_n (i := 0) d_TG_understandPicture_8 rfl rfl ?_
  refine fx_sipush (v := 256) d_TG_understandPicture_9 rfl ?_
  refine fx_callV (M' := M_TG_onlyValue) (B' := (0, 0)) (vs := [.int (zI 256)]) (rest := []) (c1 := 0) (s1 := 0) (n := 15) d_TG_understandPicture_12 ca_TG_understandPicture_57 (at_11 (h := _) hS1) rfl rfl rfl ⟨by decide, by decide⟩ (Nat.le_of_ble_eq_true rfl) (Or.inl rfl) (fx_Mt.mono H fun v h4 hv => ?_)
  obtain ⟨r6, rfl, e5, H⟩ := hv
  have hS4 := e5.trans hS1
  show fx_V l M_TG_understandPicture (0, 0) Q 0 0 15 [some (.ref 11), some (.long (zL r3)), none, none, none, none, none] [.long (zL r6)] h4
  refine fx_lstore_n (i := 3) (ls2 := [some (.ref 11), some (.long (zL r3)), none, some (.long (zL r6)), none, none, none]) d_TG_understandPicture_15 rfl (by decide) rfl ?_
  refine fx_aload_n (i := 0) d_TG_understandPicture_16 rfl rfl ?_
  refine fx_sipush (v := 257) d_TG_understandPicture_17 rfl ?_
  refine fx_callV (M' := M_TG_onlyValue) (B' := (0, 0)) (vs := [.int (zI 257)]) (rest := []) (c1 := 0) (s1 := 0) (n := 23) d_TG_understandPicture_20 ca_TG_understandPicture_57 (at_11 (h := _) hS4) rfl rfl rfl ⟨by decide, by decide⟩ (Nat.le_of_ble_eq_true rfl) (Or.inl rfl) (fx_Mt.mono H fun v h7 hv => ?_)
  obtain ⟨r9, rfl, e8, H⟩ := hv
  have hS7 := e8.trans hS4
  show fx_V l M_TG_understandPicture (0, 0) Q 0 0 23 [some (.ref 11), some (.long (zL r3)), none, some (.long (zL r6)), none, none, none] [.long (zL r9)] h7
  refine fx_lstore (ls2 := [some (.ref 11), some (.long (zL r3)), none, some (.long (zL r6)), none, some (.long (zL r9)), none]) d_TG_understandPicture_23 (by decide) rfl ?_
  refine fx_aload_n (i := 0) d_TG_understandPicture_25 rfl rfl ?_
  refine fx_lload_n (i := 1) d_TG_understandPicture_26 rfl rfl ?_
  refine fx_ldc2 (v := 8) d_TG_understandPicture_27 (fx_in 397 (by decide +kernel) rfl) ?_
  obtain ⟨hz10, H⟩ := H
  refine fx_lcmp d_TG_understandPicture_30 hz10 (show zRL 8 by decide) ?_
  refine fx_if_ne (t := 38) (n := 34) d_TG_understandPicture_31 (zC_R _ _) (fun z11 => ?_) (fun z11 => ?_)
  · replace H := H.1 z11
    refine fx_iconst d_TG_understandPicture_38 ?_
    refine fx_putI d_TG_understandPicture_39 lk_TG_63 (at_11 (h := _) hS7) rfl rfl rfl ?_
    refine fx_lload_n (i := 1) d_TG_understandPicture_42 rfl rfl ?_
    refine fx_lconst (v := 1) d_TG_understandPicture_43 rfl ?_
    refine fx_lcmp d_TG_understandPicture_44 hz10 (show zRL 1 by decide) ?_
    refine fx_if_eq (t := 56) (n := 48) d_TG_understandPicture_45 (zC_R _ _) (fun z12 => ?_) (fun z12 => ?_)
    · replace H := H.1 z12
      refine fx_aload_n (i := 0) d_TG_understandPicture_56 rfl rfl ?_
      refine fx_sipush (v := 262) d_TG_understandPicture_57 rfl ?_
      refine fx_callV (M' := M_TG_onlyValue) (B' := (0, 0)) (vs := [.int (zI 262)]) (rest := []) (c1 := 0) (s1 := 0) (n := 63) d_TG_understandPicture_60 ca_TG_understandPicture_57 (at_11 (h := _) hS7) rfl rfl rfl ⟨by decide, by decide⟩ (Nat.le_of_ble_eq_true rfl) (Or.inl rfl) (fx_Mt.mono H fun v h13 hv => ?_)
      obtain ⟨r15, rfl, e14, H⟩ := hv
      have hS13 := e14.trans hS7
      show fx_V l M_TG_understandPicture (0, 0) Q 0 0 63 [some (.ref 11), some (.long (zL r3)), none, some (.long (zL r6)), none, some (.long (zL r9)), none] [.long (zL r15)] h13
      refine fx_aload_n (i := 0) d_TG_understandPicture_63 rfl rfl ?_
      refine fx_getI d_TG_understandPicture_64 lk_TG_63 (at_11 (h := _) hS13) rfl ?_
      obtain ⟨hz16, H⟩ := H
      refine fx_if_eq (t := 74) (n := 70) d_TG_understandPicture_67 hz16 (fun z17 => ?_) (fun z17 => ?_)
      · replace H := H.1 z17
        refine fx_iconst d_TG_understandPicture_74 ?_
        refine fx_i2l d_TG_understandPicture_75 (show zR 0 by decide) ?_
        obtain ⟨hz18, H⟩ := H
        refine fx_lcmp d_TG_understandPicture_76 hz18 (show zRL 0 by decide) ?_
        refine fx_if_ne (t := 93) (n := 80) d_TG_understandPicture_77 (zC_R _ _) (fun z19 => ?_) (fun z19 => ?_)
        · replace H := H.1 z19
          refine fx_iconst d_TG_understandPicture_93 ?_
          exact fx_end (some (.int (zI 0))) ⟨⟨_, rfl, rfl⟩, d_TG_understandPicture_94⟩ (Nat.le_refl _) (Nat.le_refl _) rfl H
        · replace H := H.2 z19
          refine fx_aload_n (i := 0) d_TG_understandPicture_80 rfl rfl ?_
          refine fx_getI d_TG_understandPicture_81 lk_TG_63 (at_11 (h := _) hS13) rfl ?_
          refine fx_lload_n (i := 3) d_TG_understandPicture_84 rfl rfl ?_
          refine fx_lload d_TG_understandPicture_85 rfl ?_
          refine fx_callS (M' := M_FP_sizeCanBe) (B' := (0, 0)) (vs := [.int (zI (h13.2.1 11 2)), .long (zL r6), .long (zL r9)]) (rest := []) (c1 := 0) (s1 := 0) (n := 90) d_TG_understandPicture_87 ca_TG_understandPicture_67 rfl rfl ⟨by decide, by decide⟩ (Nat.le_of_ble_eq_true rfl) (Or.inl rfl) (fx_Mt.mono H fun v h20 hv => ?_)
          obtain ⟨r22, rfl, e21, H⟩ := hv
          have hS20 := e21.trans hS13
          show fx_V l M_TG_understandPicture (0, 0) Q 0 0 90 [some (.ref 11), some (.long (zL r3)), none, some (.long (zL r6)), none, some (.long (zL r9)), none] [.int (zI r22)] h20
          obtain ⟨hz23, H⟩ := H
          refine fx_if_ne (t := 95) (n := 93) d_TG_understandPicture_90 hz23 (fun z24 => ?_) (fun z24 => ?_)
          · replace H := H.1 z24
            refine fx_aload_n (i := 0) d_TG_understandPicture_95 rfl rfl ?_
            refine fx_lload_n (i := 3) d_TG_understandPicture_96 rfl rfl ?_
            refine fx_l2i d_TG_understandPicture_97 ?_
            refine fx_putI d_TG_understandPicture_98 lk_TG_71 (at_11 (h := _) hS20) rfl rfl rfl ?_
            refine fx_aload_n (i := 0) d_TG_understandPicture_101 rfl rfl ?_
            refine fx_lload d_TG_understandPicture_102 rfl ?_
            refine fx_l2i d_TG_understandPicture_104 ?_
            refine fx_putI d_TG_understandPicture_105 lk_TG_74 (at_11 (h := _) hS20) rfl rfl rfl ?_
            refine fx_iconst d_TG_understandPicture_108 ?_
            exact fx_end (some (.int (zI 1))) ⟨⟨_, rfl, rfl⟩, d_TG_understandPicture_109⟩ (Nat.le_refl _) (Nat.le_refl _) rfl H
          · replace H := H.2 z24
            refine fx_iconst d_TG_understandPicture_93 ?_
            exact fx_end (some (.int (zI 0))) ⟨⟨_, rfl, rfl⟩, d_TG_understandPicture_94⟩ (Nat.le_refl _) (Nat.le_refl _) rfl H
      · replace H := H.2 z17
        refine fx_iconst d_TG_understandPicture_70 ?_
        refine fx_goto (n := 75) d_TG_understandPicture_71 ?_
        refine fx_i2l d_TG_understandPicture_75 (show zR 1 by decide) ?_
        obtain ⟨hz25, H⟩ := H
        refine fx_lcmp d_TG_understandPicture_76 hz25 (show zRL 1 by decide) ?_
        refine fx_if_ne (t := 93) (n := 80) d_TG_understandPicture_77 (zC_R _ _) (fun z26 => ?_) (fun z26 => ?_)
        · replace H := H.1 z26
          refine fx_iconst d_TG_understandPicture_93 ?_
          exact fx_end (some (.int (zI 0))) ⟨⟨_, rfl, rfl⟩, d_TG_understandPicture_94⟩ (Nat.le_refl _) (Nat.le_refl _) rfl H
        · replace H := H.2 z26
          refine fx_aload_n (i := 0) d_TG_understandPicture_80 rfl rfl ?_
          refine fx_getI d_TG_understandPicture_81 lk_TG_63 (at_11 (h := _) hS13) rfl ?_
          refine fx_lload_n (i := 3) d_TG_understandPicture_84 rfl rfl ?_
          refine fx_lload d_TG_understandPicture_85 rfl ?_
          refine fx_callS (M' := M_FP_sizeCanBe) (B' := (0, 0)) (vs := [.int (zI (h13.2.1 11 2)), .long (zL r6), .long (zL r9)]) (rest := []) (c1 := 0) (s1 := 0) (n := 90) d_TG_understandPicture_87 ca_TG_understandPicture_67 rfl rfl ⟨by decide, by decide⟩ (Nat.le_of_ble_eq_true rfl) (Or.inl rfl) (fx_Mt.mono H fun v h27 hv => ?_)
          obtain ⟨r29, rfl, e28, H⟩ := hv
          have hS27 := e28.trans hS13
          show fx_V l M_TG_understandPicture (0, 0) Q 0 0 90 [some (.ref 11), some (.long (zL r3)), none, some (.long (zL r6)), none, some (.long (zL r9)), none] [.int (zI r29)] h27
          obtain ⟨hz30, H⟩ := H
          refine fx_if_ne (t := 95) (n := 93) d_TG_understandPicture_90 hz30 (fun z31 => ?_) (fun z31 => ?_)
          · replace H := H.1 z31
            refine fx_aload_n (i := 0) d_TG_understandPicture_95 rfl rfl ?_
            refine fx_lload_n (i := 3) d_TG_understandPicture_96 rfl rfl ?_
            refine fx_l2i d_TG_understandPicture_97 ?_
            refine fx_putI d_TG_understandPicture_98 lk_TG_71 (at_11 (h := _) hS27) rfl rfl rfl ?_
            refine fx_aload_n (i := 0) d_TG_understandPicture_101 rfl rfl ?_
            refine fx_lload d_TG_understandPicture_102 rfl ?_
            refine fx_l2i d_TG_understandPicture_104 ?_
            refine fx_putI d_TG_understandPicture_105 lk_TG_74 (at_11 (h := _) hS27) rfl rfl rfl ?_
            refine fx_iconst d_TG_understandPicture_108 ?_
            exact fx_end (some (.int (zI 1))) ⟨⟨_, rfl, rfl⟩, d_TG_understandPicture_109⟩ (Nat.le_refl _) (Nat.le_refl _) rfl H
          · replace H := H.2 z31
            refine fx_iconst d_TG_understandPicture_93 ?_
            exact fx_end (some (.int (zI 0))) ⟨⟨_, rfl, rfl⟩, d_TG_understandPicture_94⟩ (Nat.le_refl _) (Nat.le_refl _) rfl H
    · replace H := H.2 z12
      refine fx_lload_n (i := 1) d_TG_understandPicture_48 rfl rfl ?_
      refine fx_ldc2 (v := 8) d_TG_understandPicture_49 (fx_in 397 (by decide +kernel) rfl) ?_
      refine fx_lcmp d_TG_understandPicture_52 hz10 (show zRL 8 by decide) ?_
      refine fx_if_ne (t := 93) (n := 56) d_TG_understandPicture_53 (zC_R _ _) (fun z32 => ?_) (fun z32 => ?_)
      · replace H := H.1 z32
        refine fx_iconst d_TG_understandPicture_93 ?_
        exact fx_end (some (.int (zI 0))) ⟨⟨_, rfl, rfl⟩, d_TG_understandPicture_94⟩ (Nat.le_refl _) (Nat.le_refl _) rfl H
      · replace H := H.2 z32
        refine fx_aload_n (i := 0) d_TG_understandPicture_56 rfl rfl ?_
        refine fx_sipush (v := 262) d_TG_understandPicture_57 rfl ?_
        refine fx_callV (M' := M_TG_onlyValue) (B' := (0, 0)) (vs := [.int (zI 262)]) (rest := []) (c1 := 0) (s1 := 0) (n := 63) d_TG_understandPicture_60 ca_TG_understandPicture_57 (at_11 (h := _) hS7) rfl rfl rfl ⟨by decide, by decide⟩ (Nat.le_of_ble_eq_true rfl) (Or.inl rfl) (fx_Mt.mono H fun v h33 hv => ?_)
        obtain ⟨r35, rfl, e34, H⟩ := hv
        have hS33 := e34.trans hS7
        show fx_V l M_TG_understandPicture (0, 0) Q 0 0 63 [some (.ref 11), some (.long (zL r3)), none, some (.long (zL r6)), none, some (.long (zL r9)), none] [.long (zL r35)] h33
        refine fx_aload_n (i := 0) d_TG_understandPicture_63 rfl rfl ?_
        refine fx_getI d_TG_understandPicture_64 lk_TG_63 (at_11 (h := _) hS33) rfl ?_
        obtain ⟨hz36, H⟩ := H
        refine fx_if_eq (t := 74) (n := 70) d_TG_understandPicture_67 hz36 (fun z37 => ?_) (fun z37 => ?_)
        · replace H := H.1 z37
          refine fx_iconst d_TG_understandPicture_74 ?_
          refine fx_i2l d_TG_understandPicture_75 (show zR 0 by decide) ?_
          obtain ⟨hz38, H⟩ := H
          refine fx_lcmp d_TG_understandPicture_76 hz38 (show zRL 0 by decide) ?_
          refine fx_if_ne (t := 93) (n := 80) d_TG_understandPicture_77 (zC_R _ _) (fun z39 => ?_) (fun z39 => ?_)
          · replace H := H.1 z39
            refine fx_iconst d_TG_understandPicture_93 ?_
            exact fx_end (some (.int (zI 0))) ⟨⟨_, rfl, rfl⟩, d_TG_understandPicture_94⟩ (Nat.le_refl _) (Nat.le_refl _) rfl H
          · replace H := H.2 z39
            refine fx_aload_n (i := 0) d_TG_understandPicture_80 rfl rfl ?_
            refine fx_getI d_TG_understandPicture_81 lk_TG_63 (at_11 (h := _) hS33) rfl ?_
            refine fx_lload_n (i := 3) d_TG_understandPicture_84 rfl rfl ?_
            refine fx_lload d_TG_understandPicture_85 rfl ?_
            refine fx_callS (M' := M_FP_sizeCanBe) (B' := (0, 0)) (vs := [.int (zI (h33.2.1 11 2)), .long (zL r6), .long (zL r9)]) (rest := []) (c1 := 0) (s1 := 0) (n := 90) d_TG_understandPicture_87 ca_TG_understandPicture_67 rfl rfl ⟨by decide, by decide⟩ (Nat.le_of_ble_eq_true rfl) (Or.inl rfl) (fx_Mt.mono H fun v h40 hv => ?_)
            obtain ⟨r42, rfl, e41, H⟩ := hv
            have hS40 := e41.trans hS33
            show fx_V l M_TG_understandPicture (0, 0) Q 0 0 90 [some (.ref 11), some (.long (zL r3)), none, some (.long (zL r6)), none, some (.long (zL r9)), none] [.int (zI r42)] h40
            obtain ⟨hz43, H⟩ := H
            refine fx_if_ne (t := 95) (n := 93) d_TG_understandPicture_90 hz43 (fun z44 => ?_) (fun z44 => ?_)
            · replace H := H.1 z44
              refine fx_aload_n (i := 0) d_TG_understandPicture_95 rfl rfl ?_
              refine fx_lload_n (i := 3) d_TG_understandPicture_96 rfl rfl ?_
              refine fx_l2i d_TG_understandPicture_97 ?_
              refine fx_putI d_TG_understandPicture_98 lk_TG_71 (at_11 (h := _) hS40) rfl rfl rfl ?_
              refine fx_aload_n (i := 0) d_TG_understandPicture_101 rfl rfl ?_
              refine fx_lload d_TG_understandPicture_102 rfl ?_
              refine fx_l2i d_TG_understandPicture_104 ?_
              refine fx_putI d_TG_understandPicture_105 lk_TG_74 (at_11 (h := _) hS40) rfl rfl rfl ?_
              refine fx_iconst d_TG_understandPicture_108 ?_
              exact fx_end (some (.int (zI 1))) ⟨⟨_, rfl, rfl⟩, d_TG_understandPicture_109⟩ (Nat.le_refl _) (Nat.le_refl _) rfl H
            · replace H := H.2 z44
              refine fx_iconst d_TG_understandPicture_93 ?_
              exact fx_end (some (.int (zI 0))) ⟨⟨_, rfl, rfl⟩, d_TG_understandPicture_94⟩ (Nat.le_refl _) (Nat.le_refl _) rfl H
        · replace H := H.2 z37
          refine fx_iconst d_TG_understandPicture_70 ?_
          refine fx_goto (n := 75) d_TG_understandPicture_71 ?_
          refine fx_i2l d_TG_understandPicture_75 (show zR 1 by decide) ?_
          obtain ⟨hz45, H⟩ := H
          refine fx_lcmp d_TG_understandPicture_76 hz45 (show zRL 1 by decide) ?_
          refine fx_if_ne (t := 93) (n := 80) d_TG_understandPicture_77 (zC_R _ _) (fun z46 => ?_) (fun z46 => ?_)
          · replace H := H.1 z46
            refine fx_iconst d_TG_understandPicture_93 ?_
            exact fx_end (some (.int (zI 0))) ⟨⟨_, rfl, rfl⟩, d_TG_understandPicture_94⟩ (Nat.le_refl _) (Nat.le_refl _) rfl H
          · replace H := H.2 z46
            refine fx_aload_n (i := 0) d_TG_understandPicture_80 rfl rfl ?_
            refine fx_getI d_TG_understandPicture_81 lk_TG_63 (at_11 (h := _) hS33) rfl ?_
            refine fx_lload_n (i := 3) d_TG_understandPicture_84 rfl rfl ?_
            refine fx_lload d_TG_understandPicture_85 rfl ?_
            refine fx_callS (M' := M_FP_sizeCanBe) (B' := (0, 0)) (vs := [.int (zI (h33.2.1 11 2)), .long (zL r6), .long (zL r9)]) (rest := []) (c1 := 0) (s1 := 0) (n := 90) d_TG_understandPicture_87 ca_TG_understandPicture_67 rfl rfl ⟨by decide, by decide⟩ (Nat.le_of_ble_eq_true rfl) (Or.inl rfl) (fx_Mt.mono H fun v h47 hv => ?_)
            obtain ⟨r49, rfl, e48, H⟩ := hv
            have hS47 := e48.trans hS33
            show fx_V l M_TG_understandPicture (0, 0) Q 0 0 90 [some (.ref 11), some (.long (zL r3)), none, some (.long (zL r6)), none, some (.long (zL r9)), none] [.int (zI r49)] h47
            obtain ⟨hz50, H⟩ := H
            refine fx_if_ne (t := 95) (n := 93) d_TG_understandPicture_90 hz50 (fun z51 => ?_) (fun z51 => ?_)
            · replace H := H.1 z51
              refine fx_aload_n (i := 0) d_TG_understandPicture_95 rfl rfl ?_
              refine fx_lload_n (i := 3) d_TG_understandPicture_96 rfl rfl ?_
              refine fx_l2i d_TG_understandPicture_97 ?_
              refine fx_putI d_TG_understandPicture_98 lk_TG_71 (at_11 (h := _) hS47) rfl rfl rfl ?_
              refine fx_aload_n (i := 0) d_TG_understandPicture_101 rfl rfl ?_
              refine fx_lload d_TG_understandPicture_102 rfl ?_
              refine fx_l2i d_TG_understandPicture_104 ?_
              refine fx_putI d_TG_understandPicture_105 lk_TG_74 (at_11 (h := _) hS47) rfl rfl rfl ?_
              refine fx_iconst d_TG_understandPicture_108 ?_
              exact fx_end (some (.int (zI 1))) ⟨⟨_, rfl, rfl⟩, d_TG_understandPicture_109⟩ (Nat.le_refl _) (Nat.le_refl _) rfl H
            · replace H := H.2 z51
              refine fx_iconst d_TG_understandPicture_93 ?_
              exact fx_end (some (.int (zI 0))) ⟨⟨_, rfl, rfl⟩, d_TG_understandPicture_94⟩ (Nat.le_refl _) (Nat.le_refl _) rfl H
  · replace H := H.2 z11
    refine fx_iconst d_TG_understandPicture_34 ?_
    refine fx_goto (n := 39) d_TG_understandPicture_35 ?_
    refine fx_putI d_TG_understandPicture_39 lk_TG_63 (at_11 (h := _) hS7) rfl rfl rfl ?_
    refine fx_lload_n (i := 1) d_TG_understandPicture_42 rfl rfl ?_
    refine fx_lconst (v := 1) d_TG_understandPicture_43 rfl ?_
    refine fx_lcmp d_TG_understandPicture_44 hz10 (show zRL 1 by decide) ?_
    refine fx_if_eq (t := 56) (n := 48) d_TG_understandPicture_45 (zC_R _ _) (fun z52 => ?_) (fun z52 => ?_)
    · replace H := H.1 z52
      refine fx_aload_n (i := 0) d_TG_understandPicture_56 rfl rfl ?_
      refine fx_sipush (v := 262) d_TG_understandPicture_57 rfl ?_
      refine fx_callV (M' := M_TG_onlyValue) (B' := (0, 0)) (vs := [.int (zI 262)]) (rest := []) (c1 := 0) (s1 := 0) (n := 63) d_TG_understandPicture_60 ca_TG_understandPicture_57 (at_11 (h := _) hS7) rfl rfl rfl ⟨by decide, by decide⟩ (Nat.le_of_ble_eq_true rfl) (Or.inl rfl) (fx_Mt.mono H fun v h53 hv => ?_)
      obtain ⟨r55, rfl, e54, H⟩ := hv
      have hS53 := e54.trans hS7
      show fx_V l M_TG_understandPicture (0, 0) Q 0 0 63 [some (.ref 11), some (.long (zL r3)), none, some (.long (zL r6)), none, some (.long (zL r9)), none] [.long (zL r55)] h53
      refine fx_aload_n (i := 0) d_TG_understandPicture_63 rfl rfl ?_
      refine fx_getI d_TG_understandPicture_64 lk_TG_63 (at_11 (h := _) hS53) rfl ?_
      obtain ⟨hz56, H⟩ := H
      refine fx_if_eq (t := 74) (n := 70) d_TG_understandPicture_67 hz56 (fun z57 => ?_) (fun z57 => ?_)
      · replace H := H.1 z57
        refine fx_iconst d_TG_understandPicture_74 ?_
        refine fx_i2l d_TG_understandPicture_75 (show zR 0 by decide) ?_
        obtain ⟨hz58, H⟩ := H
        refine fx_lcmp d_TG_understandPicture_76 hz58 (show zRL 0 by decide) ?_
        refine fx_if_ne (t := 93) (n := 80) d_TG_understandPicture_77 (zC_R _ _) (fun z59 => ?_) (fun z59 => ?_)
        · replace H := H.1 z59
          refine fx_iconst d_TG_understandPicture_93 ?_
          exact fx_end (some (.int (zI 0))) ⟨⟨_, rfl, rfl⟩, d_TG_understandPicture_94⟩ (Nat.le_refl _) (Nat.le_refl _) rfl H
        · replace H := H.2 z59
          refine fx_aload_n (i := 0) d_TG_understandPicture_80 rfl rfl ?_
          refine fx_getI d_TG_understandPicture_81 lk_TG_63 (at_11 (h := _) hS53) rfl ?_
          refine fx_lload_n (i := 3) d_TG_understandPicture_84 rfl rfl ?_
          refine fx_lload d_TG_understandPicture_85 rfl ?_
          refine fx_callS (M' := M_FP_sizeCanBe) (B' := (0, 0)) (vs := [.int (zI (h53.2.1 11 2)), .long (zL r6), .long (zL r9)]) (rest := []) (c1 := 0) (s1 := 0) (n := 90) d_TG_understandPicture_87 ca_TG_understandPicture_67 rfl rfl ⟨by decide, by decide⟩ (Nat.le_of_ble_eq_true rfl) (Or.inl rfl) (fx_Mt.mono H fun v h60 hv => ?_)
          obtain ⟨r62, rfl, e61, H⟩ := hv
          have hS60 := e61.trans hS53
          show fx_V l M_TG_understandPicture (0, 0) Q 0 0 90 [some (.ref 11), some (.long (zL r3)), none, some (.long (zL r6)), none, some (.long (zL r9)), none] [.int (zI r62)] h60
          obtain ⟨hz63, H⟩ := H
          refine fx_if_ne (t := 95) (n := 93) d_TG_understandPicture_90 hz63 (fun z64 => ?_) (fun z64 => ?_)
          · replace H := H.1 z64
            refine fx_aload_n (i := 0) d_TG_understandPicture_95 rfl rfl ?_
            refine fx_lload_n (i := 3) d_TG_understandPicture_96 rfl rfl ?_
            refine fx_l2i d_TG_understandPicture_97 ?_
            refine fx_putI d_TG_understandPicture_98 lk_TG_71 (at_11 (h := _) hS60) rfl rfl rfl ?_
            refine fx_aload_n (i := 0) d_TG_understandPicture_101 rfl rfl ?_
            refine fx_lload d_TG_understandPicture_102 rfl ?_
            refine fx_l2i d_TG_understandPicture_104 ?_
            refine fx_putI d_TG_understandPicture_105 lk_TG_74 (at_11 (h := _) hS60) rfl rfl rfl ?_
            refine fx_iconst d_TG_understandPicture_108 ?_
            exact fx_end (some (.int (zI 1))) ⟨⟨_, rfl, rfl⟩, d_TG_understandPicture_109⟩ (Nat.le_refl _) (Nat.le_refl _) rfl H
          · replace H := H.2 z64
            refine fx_iconst d_TG_understandPicture_93 ?_
            exact fx_end (some (.int (zI 0))) ⟨⟨_, rfl, rfl⟩, d_TG_understandPicture_94⟩ (Nat.le_refl _) (Nat.le_refl _) rfl H
      · replace H := H.2 z57
        refine fx_iconst d_TG_understandPicture_70 ?_
        refine fx_goto (n := 75) d_TG_understandPicture_71 ?_
        refine fx_i2l d_TG_understandPicture_75 (show zR 1 by decide) ?_
        obtain ⟨hz65, H⟩ := H
        refine fx_lcmp d_TG_understandPicture_76 hz65 (show zRL 1 by decide) ?_
        refine fx_if_ne (t := 93) (n := 80) d_TG_understandPicture_77 (zC_R _ _) (fun z66 => ?_) (fun z66 => ?_)
        · replace H := H.1 z66
          refine fx_iconst d_TG_understandPicture_93 ?_
          exact fx_end (some (.int (zI 0))) ⟨⟨_, rfl, rfl⟩, d_TG_understandPicture_94⟩ (Nat.le_refl _) (Nat.le_refl _) rfl H
        · replace H := H.2 z66
          refine fx_aload_n (i := 0) d_TG_understandPicture_80 rfl rfl ?_
          refine fx_getI d_TG_understandPicture_81 lk_TG_63 (at_11 (h := _) hS53) rfl ?_
          refine fx_lload_n (i := 3) d_TG_understandPicture_84 rfl rfl ?_
          refine fx_lload d_TG_understandPicture_85 rfl ?_
          refine fx_callS (M' := M_FP_sizeCanBe) (B' := (0, 0)) (vs := [.int (zI (h53.2.1 11 2)), .long (zL r6), .long (zL r9)]) (rest := []) (c1 := 0) (s1 := 0) (n := 90) d_TG_understandPicture_87 ca_TG_understandPicture_67 rfl rfl ⟨by decide, by decide⟩ (Nat.le_of_ble_eq_true rfl) (Or.inl rfl) (fx_Mt.mono H fun v h67 hv => ?_)
          obtain ⟨r69, rfl, e68, H⟩ := hv
          have hS67 := e68.trans hS53
          show fx_V l M_TG_understandPicture (0, 0) Q 0 0 90 [some (.ref 11), some (.long (zL r3)), none, some (.long (zL r6)), none, some (.long (zL r9)), none] [.int (zI r69)] h67
          obtain ⟨hz70, H⟩ := H
          refine fx_if_ne (t := 95) (n := 93) d_TG_understandPicture_90 hz70 (fun z71 => ?_) (fun z71 => ?_)
          · replace H := H.1 z71
            refine fx_aload_n (i := 0) d_TG_understandPicture_95 rfl rfl ?_
            refine fx_lload_n (i := 3) d_TG_understandPicture_96 rfl rfl ?_
            refine fx_l2i d_TG_understandPicture_97 ?_
            refine fx_putI d_TG_understandPicture_98 lk_TG_71 (at_11 (h := _) hS67) rfl rfl rfl ?_
            refine fx_aload_n (i := 0) d_TG_understandPicture_101 rfl rfl ?_
            refine fx_lload d_TG_understandPicture_102 rfl ?_
            refine fx_l2i d_TG_understandPicture_104 ?_
            refine fx_putI d_TG_understandPicture_105 lk_TG_74 (at_11 (h := _) hS67) rfl rfl rfl ?_
            refine fx_iconst d_TG_understandPicture_108 ?_
            exact fx_end (some (.int (zI 1))) ⟨⟨_, rfl, rfl⟩, d_TG_understandPicture_109⟩ (Nat.le_refl _) (Nat.le_refl _) rfl H
          · replace H := H.2 z71
            refine fx_iconst d_TG_understandPicture_93 ?_
            exact fx_end (some (.int (zI 0))) ⟨⟨_, rfl, rfl⟩, d_TG_understandPicture_94⟩ (Nat.le_refl _) (Nat.le_refl _) rfl H
    · replace H := H.2 z52
      refine fx_lload_n (i := 1) d_TG_understandPicture_48 rfl rfl ?_
      refine fx_ldc2 (v := 8) d_TG_understandPicture_49 (fx_in 397 (by decide +kernel) rfl) ?_
      refine fx_lcmp d_TG_understandPicture_52 hz10 (show zRL 8 by decide) ?_
      refine fx_if_ne (t := 93) (n := 56) d_TG_understandPicture_53 (zC_R _ _) (fun z72 => ?_) (fun z72 => ?_)
      · replace H := H.1 z72
        refine fx_iconst d_TG_understandPicture_93 ?_
        exact fx_end (some (.int (zI 0))) ⟨⟨_, rfl, rfl⟩, d_TG_understandPicture_94⟩ (Nat.le_refl _) (Nat.le_refl _) rfl H
      · replace H := H.2 z72
        refine fx_aload_n (i := 0) d_TG_understandPicture_56 rfl rfl ?_
        refine fx_sipush (v := 262) d_TG_understandPicture_57 rfl ?_
        refine fx_callV (M' := M_TG_onlyValue) (B' := (0, 0)) (vs := [.int (zI 262)]) (rest := []) (c1 := 0) (s1 := 0) (n := 63) d_TG_understandPicture_60 ca_TG_understandPicture_57 (at_11 (h := _) hS7) rfl rfl rfl ⟨by decide, by decide⟩ (Nat.le_of_ble_eq_true rfl) (Or.inl rfl) (fx_Mt.mono H fun v h73 hv => ?_)
        obtain ⟨r75, rfl, e74, H⟩ := hv
        have hS73 := e74.trans hS7
        show fx_V l M_TG_understandPicture (0, 0) Q 0 0 63 [some (.ref 11), some (.long (zL r3)), none, some (.long (zL r6)), none, some (.long (zL r9)), none] [.long (zL r75)] h73
        refine fx_aload_n (i := 0) d_TG_understandPicture_63 rfl rfl ?_
        refine fx_getI d_TG_understandPicture_64 lk_TG_63 (at_11 (h := _) hS73) rfl ?_
        obtain ⟨hz76, H⟩ := H
        refine fx_if_eq (t := 74) (n := 70) d_TG_understandPicture_67 hz76 (fun z77 => ?_) (fun z77 => ?_)
        · replace H := H.1 z77
          refine fx_iconst d_TG_understandPicture_74 ?_
          refine fx_i2l d_TG_understandPicture_75 (show zR 0 by decide) ?_
          obtain ⟨hz78, H⟩ := H
          refine fx_lcmp d_TG_understandPicture_76 hz78 (show zRL 0 by decide) ?_
          refine fx_if_ne (t := 93) (n := 80) d_TG_understandPicture_77 (zC_R _ _) (fun z79 => ?_) (fun z79 => ?_)
          · replace H := H.1 z79
            refine fx_iconst d_TG_understandPicture_93 ?_
            exact fx_end (some (.int (zI 0))) ⟨⟨_, rfl, rfl⟩, d_TG_understandPicture_94⟩ (Nat.le_refl _) (Nat.le_refl _) rfl H
          · replace H := H.2 z79
            refine fx_aload_n (i := 0) d_TG_understandPicture_80 rfl rfl ?_
            refine fx_getI d_TG_understandPicture_81 lk_TG_63 (at_11 (h := _) hS73) rfl ?_
            refine fx_lload_n (i := 3) d_TG_understandPicture_84 rfl rfl ?_
            refine fx_lload d_TG_understandPicture_85 rfl ?_
            refine fx_callS (M' := M_FP_sizeCanBe) (B' := (0, 0)) (vs := [.int (zI (h73.2.1 11 2)), .long (zL r6), .long (zL r9)]) (rest := []) (c1 := 0) (s1 := 0) (n := 90) d_TG_understandPicture_87 ca_TG_understandPicture_67 rfl rfl ⟨by decide, by decide⟩ (Nat.le_of_ble_eq_true rfl) (Or.inl rfl) (fx_Mt.mono H fun v h80 hv => ?_)
            obtain ⟨r82, rfl, e81, H⟩ := hv
            have hS80 := e81.trans hS73
            show fx_V l M_TG_understandPicture (0, 0) Q 0 0 90 [some (.ref 11), some (.long (zL r3)), none, some (.long (zL r6)), none, some (.long (zL r9)), none] [.int (zI r82)] h80
            obtain ⟨hz83, H⟩ := H
            refine fx_if_ne (t := 95) (n := 93) d_TG_understandPicture_90 hz83 (fun z84 => ?_) (fun z84 => ?_)
            · replace H := H.1 z84
              refine fx_aload_n (i := 0) d_TG_understandPicture_95 rfl rfl ?_
              refine fx_lload_n (i := 3) d_TG_understandPicture_96 rfl rfl ?_
              refine fx_l2i d_TG_understandPicture_97 ?_
              refine fx_putI d_TG_understandPicture_98 lk_TG_71 (at_11 (h := _) hS80) rfl rfl rfl ?_
              refine fx_aload_n (i := 0) d_TG_understandPicture_101 rfl rfl ?_
              refine fx_lload d_TG_understandPicture_102 rfl ?_
              refine fx_l2i d_TG_understandPicture_104 ?_
              refine fx_putI d_TG_understandPicture_105 lk_TG_74 (at_11 (h := _) hS80) rfl rfl rfl ?_
              refine fx_iconst d_TG_understandPicture_108 ?_
              exact fx_end (some (.int (zI 1))) ⟨⟨_, rfl, rfl⟩, d_TG_understandPicture_109⟩ (Nat.le_refl _) (Nat.le_refl _) rfl H
            · replace H := H.2 z84
              refine fx_iconst d_TG_understandPicture_93 ?_
              exact fx_end (some (.int (zI 0))) ⟨⟨_, rfl, rfl⟩, d_TG_understandPicture_94⟩ (Nat.le_refl _) (Nat.le_refl _) rfl H
        · replace H := H.2 z77
          refine fx_iconst d_TG_understandPicture_70 ?_
          refine fx_goto (n := 75) d_TG_understandPicture_71 ?_
          refine fx_i2l d_TG_understandPicture_75 (show zR 1 by decide) ?_
          obtain ⟨hz85, H⟩ := H
          refine fx_lcmp d_TG_understandPicture_76 hz85 (show zRL 1 by decide) ?_
          refine fx_if_ne (t := 93) (n := 80) d_TG_understandPicture_77 (zC_R _ _) (fun z86 => ?_) (fun z86 => ?_)
          · replace H := H.1 z86
            refine fx_iconst d_TG_understandPicture_93 ?_
            exact fx_end (some (.int (zI 0))) ⟨⟨_, rfl, rfl⟩, d_TG_understandPicture_94⟩ (Nat.le_refl _) (Nat.le_refl _) rfl H
          · replace H := H.2 z86
            refine fx_aload_n (i := 0) d_TG_understandPicture_80 rfl rfl ?_
            refine fx_getI d_TG_understandPicture_81 lk_TG_63 (at_11 (h := _) hS73) rfl ?_
            refine fx_lload_n (i := 3) d_TG_understandPicture_84 rfl rfl ?_
            refine fx_lload d_TG_understandPicture_85 rfl ?_
            refine fx_callS (M' := M_FP_sizeCanBe) (B' := (0, 0)) (vs := [.int (zI (h73.2.1 11 2)), .long (zL r6), .long (zL r9)]) (rest := []) (c1 := 0) (s1 := 0) (n := 90) d_TG_understandPicture_87 ca_TG_understandPicture_67 rfl rfl ⟨by decide, by decide⟩ (Nat.le_of_ble_eq_true rfl) (Or.inl rfl) (fx_Mt.mono H fun v h87 hv => ?_)
            obtain ⟨r89, rfl, e88, H⟩ := hv
            have hS87 := e88.trans hS73
            show fx_V l M_TG_understandPicture (0, 0) Q 0 0 90 [some (.ref 11), some (.long (zL r3)), none, some (.long (zL r6)), none, some (.long (zL r9)), none] [.int (zI r89)] h87
            obtain ⟨hz90, H⟩ := H
            refine fx_if_ne (t := 95) (n := 93) d_TG_understandPicture_90 hz90 (fun z91 => ?_) (fun z91 => ?_)
            · replace H := H.1 z91
              refine fx_aload_n (i := 0) d_TG_understandPicture_95 rfl rfl ?_
              refine fx_lload_n (i := 3) d_TG_understandPicture_96 rfl rfl ?_
              refine fx_l2i d_TG_understandPicture_97 ?_
              refine fx_putI d_TG_understandPicture_98 lk_TG_71 (at_11 (h := _) hS87) rfl rfl rfl ?_
              refine fx_aload_n (i := 0) d_TG_understandPicture_101 rfl rfl ?_
              refine fx_lload d_TG_understandPicture_102 rfl ?_
              refine fx_l2i d_TG_understandPicture_104 ?_
              refine fx_putI d_TG_understandPicture_105 lk_TG_74 (at_11 (h := _) hS87) rfl rfl rfl ?_
              refine fx_iconst d_TG_understandPicture_108 ?_
              exact fx_end (some (.int (zI 1))) ⟨⟨_, rfl, rfl⟩, d_TG_understandPicture_109⟩ (Nat.le_refl _) (Nat.le_refl _) rfl H
            · replace H := H.2 z91
              refine fx_iconst d_TG_understandPicture_93 ?_
              exact fx_end (some (.int (zI 0))) ⟨⟨_, rfl, rfl⟩, d_TG_understandPicture_94⟩ (Nat.le_refl _) (Nat.le_refl _) rfl H

set_option maxRecDepth 100000 in
set_option maxHeartbeats 4000000 in
theorem e_TG_understandScheme {l : Launch} {Q : Option Value → fx_H → Prop} {h : fx_H}    {a : Nat → Nat} {pp dd : Nat} (hS : h.1 = fx_S0 a pp dd) 
    (H : fx_Mt l M_TG_onlyValue (0, 0) [.ref 11, .int (zI 259)] h (fun v h1 => ∃ r3 : Int, v = some (.long (zL r3)) ∧ h1.1 = h.1 ∧ fx_Mt l M_FP_isScheme (0, 0) [.long (zL r3)] h1 (fun v h4 => ∃ r6 : Int, v = some (.int (zI r6)) ∧ h4.1 = h1.1 ∧ zR r6 ∧ ((r6 = 0 → Q (some (.int (zI 0))) h4) ∧ (¬ (r6 = 0) → zR (h4.2.1 11 2) ∧ (((h4.2.1 11 2) = 0 → fx_Mt l M_TG_placeOf (0, 0) [.ref 11, .int (zI 292)] (fx_uF h4 11 5 r3) (fun v h11 => ∃ r13 : Int, v = some (.int (zI r13)) ∧ h11.1 = (fx_uF h4 11 5 r3).1 ∧ zR r13 ∧ ((r13 = (-1) → zR (h11.2.1 11 5) ∧ (((h11.2.1 11 5) = 3 → Q (some (.int (zI 0))) h11) ∧ (¬ ((h11.2.1 11 5) = 3) → Q (some (.int (zI 1))) h11))) ∧ (¬ (r13 = (-1)) → fx_Mt l M_TG_onlyValue (0, 0) [.ref 11, .int (zI 292)] h11 (fun v h18 => ∃ r20 : Int, v = some (.long (zL r20)) ∧ h18.1 = h11.1 ∧ zRL r20 ∧ ((¬ (zC r20 1) = 0 → Q (some (.int (zI 0))) h18) ∧ ((zC r20 1) = 0 → Q (some (.int (zI 1))) h18))))))) ∧ (¬ ((h4.2.1 11 2) = 0) → fx_Mt l M_FP_isFax (0, 0) [.long (zL r3)] h4 (fun v h23 => ∃ r25 : Int, v = some (.int (zI r25)) ∧ h23.1 = h4.1 ∧ zR r25 ∧ ((r25 = 0 → fx_Mt l M_TG_placeOf (0, 0) [.ref 11, .int (zI 292)] (fx_uF h23 11 5 r3) (fun v h28 => ∃ r30 : Int, v = some (.int (zI r30)) ∧ h28.1 = (fx_uF h23 11 5 r3).1 ∧ zR r30 ∧ ((r30 = (-1) → zR (h28.2.1 11 5) ∧ (((h28.2.1 11 5) = 3 → Q (some (.int (zI 0))) h28) ∧ (¬ ((h28.2.1 11 5) = 3) → Q (some (.int (zI 1))) h28))) ∧ (¬ (r30 = (-1)) → fx_Mt l M_TG_onlyValue (0, 0) [.ref 11, .int (zI 292)] h28 (fun v h35 => ∃ r37 : Int, v = some (.long (zL r37)) ∧ h35.1 = h28.1 ∧ zRL r37 ∧ ((¬ (zC r37 1) = 0 → Q (some (.int (zI 0))) h35) ∧ ((zC r37 1) = 0 → Q (some (.int (zI 1))) h35))))))) ∧ (¬ (r25 = 0) → Q (some (.int (zI 0))) h23)))))))))) :
    fx_Mt l M_TG_understandScheme (0, 0) [.ref 11] h Q := by
  refine fx_entry (ls := [some (.ref 11), none, none, none]) (by decide) (Nat.le_of_ble_eq_true rfl) rfl ?_
  refine fx_aload_n (i := 0) d_TG_understandScheme_0 rfl rfl ?_
  refine fx_sipush (v := 259) d_TG_understandScheme_1 rfl ?_
  refine fx_callV (M' := M_TG_onlyValue) (B' := (0, 0)) (vs := [.int (zI 259)]) (rest := []) (c1 := 0) (s1 := 0) (n := 7) d_TG_understandScheme_4 ca_TG_understandScheme_57 (at_11 (h := _) hS) rfl rfl rfl ⟨by decide, by decide⟩ (Nat.le_of_ble_eq_true rfl) (Or.inl rfl) (fx_Mt.mono H fun v h1 hv => ?_)
  obtain ⟨r3, rfl, e2, H⟩ := hv
  have hS1 := e2.trans hS
  show fx_V l M_TG_understandScheme (0, 0) Q 0 0 7 [some (.ref 11), none, none, none] [.long (zL r3)] h1
  refine fx_lstore_n (i := 1) (ls2 := [some (.ref 11), some (.long (zL r3)), none, none]) d_TG_understandScheme_7 rfl (by decide) rfl ?_
  refine fx_lload_n (i := 1) d_TG_understandScheme_8 rfl rfl ?_
  refine fx_callS (M' := M_FP_isScheme) (B' := (0, 0)) (vs := [.long (zL r3)]) (rest := []) (c1 := 0) (s1 := 0) (n := 12) d_TG_understandScheme_9 ca_TG_understandScheme_77 rfl rfl ⟨by decide, by decide⟩ (Nat.le_of_ble_eq_true rfl) (Or.inl rfl) (fx_Mt.mono H fun v h4 hv => ?_)
  obtain ⟨r6, rfl, e5, H⟩ := hv
  have hS4 := e5.trans hS1
  show fx_V l M_TG_understandScheme (0, 0) Q 0 0 12 [some (.ref 11), some (.long (zL r3)), none, none] [.int (zI r6)] h4
  obtain ⟨hz7, H⟩ := H
  refine fx_if_eq (t := 29) (n := 15) d_TG_understandScheme_12 hz7 (fun z8 => ?_) (fun z8 => ?_)
  · replace H := H.1 z8
    refine fx_iconst d_TG_understandScheme_29 ?_
    exact fx_end (some (.int (zI 0))) ⟨⟨_, rfl, rfl⟩, d_TG_understandScheme_30⟩ (Nat.le_refl _) (Nat.le_refl _) rfl H
  · replace H := H.2 z8
    refine fx_aload_n (i := 0) d_TG_understandScheme_15 rfl rfl ?_
    refine fx_getI d_TG_understandScheme_16 lk_TG_63 (at_11 (h := _) hS4) rfl ?_
    obtain ⟨hz9, H⟩ := H
    refine fx_if_eq (t := 31) (n := 22) d_TG_understandScheme_19 hz9 (fun z10 => ?_) (fun z10 => ?_)
    · replace H := H.1 z10
      refine fx_aload_n (i := 0) d_TG_understandScheme_31 rfl rfl ?_
      refine fx_lload_n (i := 1) d_TG_understandScheme_32 rfl rfl ?_
      refine fx_l2i d_TG_understandScheme_33 ?_
      refine fx_putI d_TG_understandScheme_34 lk_TG_84 (at_11 (h := _) hS4) rfl rfl rfl ?_
      refine fx_aload_n (i := 0) d_TG_understandScheme_37 rfl rfl ?_
      refine fx_sipush (v := 292) d_TG_understandScheme_38 rfl ?_
      refine fx_callV (M' := M_TG_placeOf) (B' := (0, 0)) (vs := [.int (zI 292)]) (rest := []) (c1 := 0) (s1 := 0) (n := 44) d_TG_understandScheme_41 ca_TG_understandScheme_87 (at_11 (h := _) hS4) rfl rfl rfl ⟨by decide, by decide⟩ (Nat.le_of_ble_eq_true rfl) (Or.inl rfl) (fx_Mt.mono H fun v h11 hv => ?_)
      obtain ⟨r13, rfl, e12, H⟩ := hv
      have hS11 := e12.trans hS4
      show fx_V l M_TG_understandScheme (0, 0) Q 0 0 44 [some (.ref 11), some (.long (zL r3)), none, none] [.int (zI r13)] h11
      refine fx_iconst d_TG_understandScheme_44 ?_
      obtain ⟨hz14, H⟩ := H
      refine fx_icmp_eq (t := 52) (n := 48) d_TG_understandScheme_45 hz14 (show zR (-1) by decide) (fun z15 => ?_) (fun z15 => ?_)
      · replace H := H.1 z15
        refine fx_iconst d_TG_understandScheme_52 ?_
        refine fx_istore_n (i := 3) (ls2 := [some (.ref 11), some (.long (zL r3)), none, some (.int (zI 0))]) d_TG_understandScheme_53 rfl (by decide) rfl ?_
        refine fx_iload_n (i := 3) d_TG_understandScheme_54 rfl rfl ?_
        refine fx_if_eq (t := 78) (n := 58) d_TG_understandScheme_55 (show zR 0 by decide) (fun z => ?_) (fun z => absurd (show ¬ ((0 : Int) = (0 : Int)) from z) (by decide))
        refine fx_aload_n (i := 0) d_TG_understandScheme_78 rfl rfl ?_
        refine fx_getI d_TG_understandScheme_79 lk_TG_84 (at_11 (h := _) hS11) rfl ?_
        refine fx_iconst d_TG_understandScheme_82 ?_
        obtain ⟨hz16, H⟩ := H
        refine fx_icmp_eq (t := 90) (n := 86) d_TG_understandScheme_83 hz16 (show zR 3 by decide) (fun z17 => ?_) (fun z17 => ?_)
        · replace H := H.1 z17
          refine fx_iconst d_TG_understandScheme_90 ?_
          exact fx_end (some (.int (zI 0))) ⟨⟨_, rfl, rfl⟩, d_TG_understandScheme_91⟩ (Nat.le_refl _) (Nat.le_refl _) rfl H
        · replace H := H.2 z17
          refine fx_iconst d_TG_understandScheme_86 ?_
          refine fx_goto (n := 91) d_TG_understandScheme_87 ?_
          exact fx_end (some (.int (zI 1))) ⟨⟨_, rfl, rfl⟩, d_TG_understandScheme_91⟩ (Nat.le_refl _) (Nat.le_refl _) rfl H
      · replace H := H.2 z15
        refine fx_iconst d_TG_understandScheme_48 ?_
        refine fx_goto (n := 53) d_TG_understandScheme_49 ?_
        refine fx_istore_n (i := 3) (ls2 := [some (.ref 11), some (.long (zL r3)), none, some (.int (zI 1))]) d_TG_understandScheme_53 rfl (by decide) rfl ?_
        refine fx_iload_n (i := 3) d_TG_understandScheme_54 rfl rfl ?_
        refine fx_if_eq (t := 78) (n := 58) d_TG_understandScheme_55 (show zR 1 by decide) (fun z => absurd (show (1 : Int) = (0 : Int) from z) (by decide)) (fun z => ?_)
        refine fx_aload_n (i := 0) d_TG_understandScheme_58 rfl rfl ?_
        refine fx_sipush (v := 292) d_TG_understandScheme_59 rfl ?_
        refine fx_callV (M' := M_TG_onlyValue) (B' := (0, 0)) (vs := [.int (zI 292)]) (rest := []) (c1 := 0) (s1 := 0) (n := 65) d_TG_understandScheme_62 ca_TG_understandScheme_57 (at_11 (h := _) hS11) rfl rfl rfl ⟨by decide, by decide⟩ (Nat.le_of_ble_eq_true rfl) (Or.inl rfl) (fx_Mt.mono H fun v h18 hv => ?_)
        obtain ⟨r20, rfl, e19, H⟩ := hv
        have hS18 := e19.trans hS11
        show fx_V l M_TG_understandScheme (0, 0) Q 0 0 65 [some (.ref 11), some (.long (zL r3)), none, some (.int (zI 1))] [.long (zL r20)] h18
        refine fx_lconst (v := 1) d_TG_understandScheme_65 rfl ?_
        obtain ⟨hz21, H⟩ := H
        refine fx_lcmp d_TG_understandScheme_66 hz21 (show zRL 1 by decide) ?_
        refine fx_if_ne (t := 74) (n := 70) d_TG_understandScheme_67 (zC_R _ _) (fun z22 => ?_) (fun z22 => ?_)
        · replace H := H.1 z22
          refine fx_iconst d_TG_understandScheme_74 ?_
          refine fx_goto (n := 91) d_TG_understandScheme_75 ?_
          exact fx_end (some (.int (zI 0))) ⟨⟨_, rfl, rfl⟩, d_TG_understandScheme_91⟩ (Nat.le_refl _) (Nat.le_refl _) rfl H
        · replace H := H.2 z22
          refine fx_iconst d_TG_understandScheme_70 ?_
          refine fx_goto (n := 91) d_TG_understandScheme_71 ?_
          exact fx_end (some (.int (zI 1))) ⟨⟨_, rfl, rfl⟩, d_TG_understandScheme_91⟩ (Nat.le_refl _) (Nat.le_refl _) rfl H
    · replace H := H.2 z10
      refine fx_lload_n (i := 1) d_TG_understandScheme_22 rfl rfl ?_
      refine fx_callS (M' := M_FP_isFax) (B' := (0, 0)) (vs := [.long (zL r3)]) (rest := []) (c1 := 0) (s1 := 0) (n := 26) d_TG_understandScheme_23 ca_TG_understandScheme_81 rfl rfl ⟨by decide, by decide⟩ (Nat.le_of_ble_eq_true rfl) (Or.inl rfl) (fx_Mt.mono H fun v h23 hv => ?_)
      obtain ⟨r25, rfl, e24, H⟩ := hv
      have hS23 := e24.trans hS4
      show fx_V l M_TG_understandScheme (0, 0) Q 0 0 26 [some (.ref 11), some (.long (zL r3)), none, none] [.int (zI r25)] h23
      obtain ⟨hz26, H⟩ := H
      refine fx_if_eq (t := 31) (n := 29) d_TG_understandScheme_26 hz26 (fun z27 => ?_) (fun z27 => ?_)
      · replace H := H.1 z27
        refine fx_aload_n (i := 0) d_TG_understandScheme_31 rfl rfl ?_
        refine fx_lload_n (i := 1) d_TG_understandScheme_32 rfl rfl ?_
        refine fx_l2i d_TG_understandScheme_33 ?_
        refine fx_putI d_TG_understandScheme_34 lk_TG_84 (at_11 (h := _) hS23) rfl rfl rfl ?_
        refine fx_aload_n (i := 0) d_TG_understandScheme_37 rfl rfl ?_
        refine fx_sipush (v := 292) d_TG_understandScheme_38 rfl ?_
        refine fx_callV (M' := M_TG_placeOf) (B' := (0, 0)) (vs := [.int (zI 292)]) (rest := []) (c1 := 0) (s1 := 0) (n := 44) d_TG_understandScheme_41 ca_TG_understandScheme_87 (at_11 (h := _) hS23) rfl rfl rfl ⟨by decide, by decide⟩ (Nat.le_of_ble_eq_true rfl) (Or.inl rfl) (fx_Mt.mono H fun v h28 hv => ?_)
        obtain ⟨r30, rfl, e29, H⟩ := hv
        have hS28 := e29.trans hS23
        show fx_V l M_TG_understandScheme (0, 0) Q 0 0 44 [some (.ref 11), some (.long (zL r3)), none, none] [.int (zI r30)] h28
        refine fx_iconst d_TG_understandScheme_44 ?_
        obtain ⟨hz31, H⟩ := H
        refine fx_icmp_eq (t := 52) (n := 48) d_TG_understandScheme_45 hz31 (show zR (-1) by decide) (fun z32 => ?_) (fun z32 => ?_)
        · replace H := H.1 z32
          refine fx_iconst d_TG_understandScheme_52 ?_
          refine fx_istore_n (i := 3) (ls2 := [some (.ref 11), some (.long (zL r3)), none, some (.int (zI 0))]) d_TG_understandScheme_53 rfl (by decide) rfl ?_
          refine fx_iload_n (i := 3) d_TG_understandScheme_54 rfl rfl ?_
          refine fx_if_eq (t := 78) (n := 58) d_TG_understandScheme_55 (show zR 0 by decide) (fun z => ?_) (fun z => absurd (show ¬ ((0 : Int) = (0 : Int)) from z) (by decide))
          refine fx_aload_n (i := 0) d_TG_understandScheme_78 rfl rfl ?_
          refine fx_getI d_TG_understandScheme_79 lk_TG_84 (at_11 (h := _) hS28) rfl ?_
          refine fx_iconst d_TG_understandScheme_82 ?_
          obtain ⟨hz33, H⟩ := H
          refine fx_icmp_eq (t := 90) (n := 86) d_TG_understandScheme_83 hz33 (show zR 3 by decide) (fun z34 => ?_) (fun z34 => ?_)
          · replace H := H.1 z34
            refine fx_iconst d_TG_understandScheme_90 ?_
            exact fx_end (some (.int (zI 0))) ⟨⟨_, rfl, rfl⟩, d_TG_understandScheme_91⟩ (Nat.le_refl _) (Nat.le_refl _) rfl H
          · replace H := H.2 z34
            refine fx_iconst d_TG_understandScheme_86 ?_
            refine fx_goto (n := 91) d_TG_understandScheme_87 ?_
            exact fx_end (some (.int (zI 1))) ⟨⟨_, rfl, rfl⟩, d_TG_understandScheme_91⟩ (Nat.le_refl _) (Nat.le_refl _) rfl H
        · replace H := H.2 z32
          refine fx_iconst d_TG_understandScheme_48 ?_
          refine fx_goto (n := 53) d_TG_understandScheme_49 ?_
          refine fx_istore_n (i := 3) (ls2 := [some (.ref 11), some (.long (zL r3)), none, some (.int (zI 1))]) d_TG_understandScheme_53 rfl (by decide) rfl ?_
          refine fx_iload_n (i := 3) d_TG_understandScheme_54 rfl rfl ?_
          refine fx_if_eq (t := 78) (n := 58) d_TG_understandScheme_55 (show zR 1 by decide) (fun z => absurd (show (1 : Int) = (0 : Int) from z) (by decide)) (fun z => ?_)
          refine fx_aload_n (i := 0) d_TG_understandScheme_58 rfl rfl ?_
          refine fx_sipush (v := 292) d_TG_understandScheme_59 rfl ?_
          refine fx_callV (M' := M_TG_onlyValue) (B' := (0, 0)) (vs := [.int (zI 292)]) (rest := []) (c1 := 0) (s1 := 0) (n := 65) d_TG_understandScheme_62 ca_TG_understandScheme_57 (at_11 (h := _) hS28) rfl rfl rfl ⟨by decide, by decide⟩ (Nat.le_of_ble_eq_true rfl) (Or.inl rfl) (fx_Mt.mono H fun v h35 hv => ?_)
          obtain ⟨r37, rfl, e36, H⟩ := hv
          have hS35 := e36.trans hS28
          show fx_V l M_TG_understandScheme (0, 0) Q 0 0 65 [some (.ref 11), some (.long (zL r3)), none, some (.int (zI 1))] [.long (zL r37)] h35
          refine fx_lconst (v := 1) d_TG_understandScheme_65 rfl ?_
          obtain ⟨hz38, H⟩ := H
          refine fx_lcmp d_TG_understandScheme_66 hz38 (show zRL 1 by decide) ?_
          refine fx_if_ne (t := 74) (n := 70) d_TG_understandScheme_67 (zC_R _ _) (fun z39 => ?_) (fun z39 => ?_)
          · replace H := H.1 z39
            refine fx_iconst d_TG_understandScheme_74 ?_
            refine fx_goto (n := 91) d_TG_understandScheme_75 ?_
            exact fx_end (some (.int (zI 0))) ⟨⟨_, rfl, rfl⟩, d_TG_understandScheme_91⟩ (Nat.le_refl _) (Nat.le_refl _) rfl H
          · replace H := H.2 z39
            refine fx_iconst d_TG_understandScheme_70 ?_
            refine fx_goto (n := 91) d_TG_understandScheme_71 ?_
            exact fx_end (some (.int (zI 1))) ⟨⟨_, rfl, rfl⟩, d_TG_understandScheme_91⟩ (Nat.le_refl _) (Nat.le_refl _) rfl H
      · replace H := H.2 z27
        refine fx_iconst d_TG_understandScheme_29 ?_
        exact fx_end (some (.int (zI 0))) ⟨⟨_, rfl, rfl⟩, d_TG_understandScheme_30⟩ (Nat.le_refl _) (Nat.le_refl _) rfl H

set_option maxRecDepth 100000 in
set_option maxHeartbeats 4000000 in
theorem e_TG_understandStrips {l : Launch} {Q : Option Value → fx_H → Prop} {h : fx_H}    {a : Nat → Nat} {pp dd : Nat} (hS : h.1 = fx_S0 a pp dd) 
    (H : fx_Mt l M_TG_onlyValue (0, 0) [.ref 11, .int (zI 278)] h (fun v h1 => ∃ r3 : Int, v = some (.long (zL r3)) ∧ h1.1 = h.1 ∧ zRL r3 ∧ (((zC r3 1) < 0 → Q (some (.int (zI 0))) h1) ∧ (¬ ((zC r3 1) < 0) → zR (h1.2.1 11 4) ∧ zRL (h1.2.1 11 4) ∧ (((zC r3 (h1.2.1 11 4)) ≤ 0 → fx_Mt l M_FP_stripsOf (0, 0) [.int (zI (h1.2.1 11 4)), .int (zI r3)] (fx_uF h1 11 6 r3) (fun v h9 => ∃ r11 : Int, v = some (.int (zI r11)) ∧ h9.1 = (fx_uF h1 11 6 r3).1 ∧ fx_Mt l M_TG_hasValues (0, 0) [.ref 11, .int (zI 273), .int (zI r11)] (fx_uF h9 11 7 r11) (fun v h12 => ∃ r14 : Int, v = some (.int (zI r14)) ∧ h12.1 = (fx_uF h9 11 7 r11).1 ∧ zR r14 ∧ ((r14 = 0 → Q (some (.int (zI 0))) h12) ∧ (¬ (r14 = 0) → fx_Mt l M_TG_hasValues (0, 0) [.ref 11, .int (zI 279), .int (zI (h12.2.1 11 7))] h12 (fun v h17 => ∃ r19 : Int, v = some (.int (zI r19)) ∧ h17.1 = h12.1 ∧ zR r19 ∧ ((r19 = 0 → Q (some (.int (zI 0))) h17) ∧ (¬ (r19 = 0) → Q (some (.int (zI 1))) h17)))))))) ∧ (¬ ((zC r3 (h1.2.1 11 4)) ≤ 0) → Q (some (.int (zI 0))) h1)))))) :
    fx_Mt l M_TG_understandStrips (0, 0) [.ref 11] h Q := by
  refine fx_entry (ls := [some (.ref 11), none, none]) (by decide) (Nat.le_of_ble_eq_true rfl) rfl ?_
  refine fx_aload_n (i := 0) d_TG_understandStrips_0 rfl rfl ?_
  refine fx_sipush (v := 278) d_TG_understandStrips_1 rfl ?_
  refine fx_callV (M' := M_TG_onlyValue) (B' := (0, 0)) (vs := [.int (zI 278)]) (rest := []) (c1 := 0) (s1 := 0) (n := 7) d_TG_understandStrips_4 ca_TG_understandStrips_57 (at_11 (h := _) hS) rfl rfl rfl ⟨by decide, by decide⟩ (Nat.le_of_ble_eq_true rfl) (Or.inl rfl) (fx_Mt.mono H fun v h1 hv => ?_)
  obtain ⟨r3, rfl, e2, H⟩ := hv
  have hS1 := e2.trans hS
  show fx_V l M_TG_understandStrips (0, 0) Q 0 0 7 [some (.ref 11), none, none] [.long (zL r3)] h1
  refine fx_lstore_n (i := 1) (ls2 := [some (.ref 11), some (.long (zL r3)), none]) d_TG_understandStrips_7 rfl (by decide) rfl ?_
  refine fx_lload_n (i := 1) d_TG_understandStrips_8 rfl rfl ?_
  refine fx_lconst (v := 1) d_TG_understandStrips_9 rfl ?_
  obtain ⟨hz4, H⟩ := H
  refine fx_lcmp d_TG_understandStrips_10 hz4 (show zRL 1 by decide) ?_
  refine fx_if_lt (t := 24) (n := 14) d_TG_understandStrips_11 (zC_R _ _) (fun z5 => ?_) (fun z5 => ?_)
  · replace H := H.1 z5
    refine fx_iconst d_TG_understandStrips_24 ?_
    exact fx_end (some (.int (zI 0))) ⟨⟨_, rfl, rfl⟩, d_TG_understandStrips_25⟩ (Nat.le_refl _) (Nat.le_refl _) rfl H
  · replace H := H.2 z5
    refine fx_lload_n (i := 1) d_TG_understandStrips_14 rfl rfl ?_
    refine fx_aload_n (i := 0) d_TG_understandStrips_15 rfl rfl ?_
    refine fx_getI d_TG_understandStrips_16 lk_TG_74 (at_11 (h := _) hS1) rfl ?_
    obtain ⟨hz6, H⟩ := H
    refine fx_i2l d_TG_understandStrips_19 hz6 ?_
    obtain ⟨hz7, H⟩ := H
    refine fx_lcmp d_TG_understandStrips_20 hz4 hz7 ?_
    refine fx_if_le (t := 26) (n := 24) d_TG_understandStrips_21 (zC_R _ _) (fun z8 => ?_) (fun z8 => ?_)
    · replace H := H.1 z8
      refine fx_aload_n (i := 0) d_TG_understandStrips_26 rfl rfl ?_
      refine fx_lload_n (i := 1) d_TG_understandStrips_27 rfl rfl ?_
      refine fx_l2i d_TG_understandStrips_28 ?_
      refine fx_putI d_TG_understandStrips_29 lk_TG_91 (at_11 (h := _) hS1) rfl rfl rfl ?_
      refine fx_aload_n (i := 0) d_TG_understandStrips_32 rfl rfl ?_
      refine fx_aload_n (i := 0) d_TG_understandStrips_33 rfl rfl ?_
      refine fx_getI d_TG_understandStrips_34 lk_TG_74 (at_11 (h := _) hS1) rfl ?_
      refine fx_aload_n (i := 0) d_TG_understandStrips_37 rfl rfl ?_
      refine fx_getI d_TG_understandStrips_38 lk_TG_91 (at_11 (h := _) hS1) rfl ?_
      refine fx_callS (M' := M_FP_stripsOf) (B' := (0, 0)) (vs := [.int (zI (h1.2.1 11 4)), .int (zI r3)]) (rest := [.ref 11]) (c1 := 0) (s1 := 0) (n := 44) d_TG_understandStrips_41 ca_TG_understandStrips_94 rfl rfl ⟨by decide, by decide⟩ (Nat.le_of_ble_eq_true rfl) (Or.inl rfl) (fx_Mt.mono H fun v h9 hv => ?_)
      obtain ⟨r11, rfl, e10, H⟩ := hv
      have hS9 := e10.trans hS1
      show fx_V l M_TG_understandStrips (0, 0) Q 0 0 44 [some (.ref 11), some (.long (zL r3)), none] [.int (zI r11), .ref 11] h9
      refine fx_putI d_TG_understandStrips_44 lk_TG_98 (at_11 (h := _) hS9) rfl rfl rfl ?_
      refine fx_aload_n (i := 0) d_TG_understandStrips_47 rfl rfl ?_
      refine fx_sipush (v := 273) d_TG_understandStrips_48 rfl ?_
      refine fx_aload_n (i := 0) d_TG_understandStrips_51 rfl rfl ?_
      refine fx_getI d_TG_understandStrips_52 lk_TG_98 (at_11 (h := _) hS9) rfl ?_
      refine fx_callV (M' := M_TG_hasValues) (B' := (0, 0)) (vs := [.int (zI 273), .int (zI r11)]) (rest := []) (c1 := 0) (s1 := 0) (n := 58) d_TG_understandStrips_55 ca_TG_understandStrips_101 (at_11 (h := _) hS9) rfl rfl rfl ⟨by decide, by decide⟩ (Nat.le_of_ble_eq_true rfl) (Or.inl rfl) (fx_Mt.mono H fun v h12 hv => ?_)
      obtain ⟨r14, rfl, e13, H⟩ := hv
      have hS12 := e13.trans hS9
      show fx_V l M_TG_understandStrips (0, 0) Q 0 0 58 [some (.ref 11), some (.long (zL r3)), none] [.int (zI r14)] h12
      obtain ⟨hz15, H⟩ := H
      refine fx_if_eq (t := 79) (n := 61) d_TG_understandStrips_58 hz15 (fun z16 => ?_) (fun z16 => ?_)
      · replace H := H.1 z16
        refine fx_iconst d_TG_understandStrips_79 ?_
        exact fx_end (some (.int (zI 0))) ⟨⟨_, rfl, rfl⟩, d_TG_understandStrips_80⟩ (Nat.le_refl _) (Nat.le_refl _) rfl H
      · replace H := H.2 z16
        refine fx_aload_n (i := 0) d_TG_understandStrips_61 rfl rfl ?_
        refine fx_sipush (v := 279) d_TG_understandStrips_62 rfl ?_
        refine fx_aload_n (i := 0) d_TG_understandStrips_65 rfl rfl ?_
        refine fx_getI d_TG_understandStrips_66 lk_TG_98 (at_11 (h := _) hS12) rfl ?_
        refine fx_callV (M' := M_TG_hasValues) (B' := (0, 0)) (vs := [.int (zI 279), .int (zI (h12.2.1 11 7))]) (rest := []) (c1 := 0) (s1 := 0) (n := 72) d_TG_understandStrips_69 ca_TG_understandStrips_101 (at_11 (h := _) hS12) rfl rfl rfl ⟨by decide, by decide⟩ (Nat.le_of_ble_eq_true rfl) (Or.inl rfl) (fx_Mt.mono H fun v h17 hv => ?_)
        obtain ⟨r19, rfl, e18, H⟩ := hv
        have hS17 := e18.trans hS12
        show fx_V l M_TG_understandStrips (0, 0) Q 0 0 72 [some (.ref 11), some (.long (zL r3)), none] [.int (zI r19)] h17
        obtain ⟨hz20, H⟩ := H
        refine fx_if_eq (t := 79) (n := 75) d_TG_understandStrips_72 hz20 (fun z21 => ?_) (fun z21 => ?_)
        · replace H := H.1 z21
          refine fx_iconst d_TG_understandStrips_79 ?_
          exact fx_end (some (.int (zI 0))) ⟨⟨_, rfl, rfl⟩, d_TG_understandStrips_80⟩ (Nat.le_refl _) (Nat.le_refl _) rfl H
        · replace H := H.2 z21
          refine fx_iconst d_TG_understandStrips_75 ?_
          refine fx_goto (n := 80) d_TG_understandStrips_76 ?_
          exact fx_end (some (.int (zI 1))) ⟨⟨_, rfl, rfl⟩, d_TG_understandStrips_80⟩ (Nat.le_refl _) (Nat.le_refl _) rfl H
    · replace H := H.2 z8
      refine fx_iconst d_TG_understandStrips_24 ?_
      exact fx_end (some (.int (zI 0))) ⟨⟨_, rfl, rfl⟩, d_TG_understandStrips_25⟩ (Nat.le_refl _) (Nat.le_refl _) rfl H

set_option maxRecDepth 100000 in
set_option maxHeartbeats 4000000 in
theorem e_TG_stripsAreInFile {l : Launch} {Q : Option Value → fx_H → Prop} {h : fx_H}    {a : Nat → Nat} {pp dd : Nat} (hS : h.1 = fx_S0 a pp dd) 
    (H : (fx_V l M_TG_stripsAreInFile (0, 0) Q 0 0 2 [some (.ref 11), some (.int (zI 0))] [] h)) :
    fx_Mt l M_TG_stripsAreInFile (0, 0) [.ref 11] h Q := by
  refine fx_entry (ls := [some (.ref 11), none]) (by decide) (Nat.le_of_ble_eq_true rfl) rfl ?_
  refine fx_iconst d_TG_stripsAreInFile_0 ?_
  refine fx_istore_n (i := 1) (ls2 := [some (.ref 11), some (.int (zI 0))]) d_TG_stripsAreInFile_1 rfl (by decide) rfl ?_
  exact H

set_option maxRecDepth 100000 in
set_option maxHeartbeats 4000000 in
theorem w_TG_stripsAreInFile_2 {l : Launch} {Q : Option Value → fx_H → Prop} {h : fx_H}  {x1 : Int}  {a : Nat → Nat} {pp dd : Nat} (hS : h.1 = fx_S0 a pp dd) 
    (H : zR x1 ∧ zR (h.2.1 11 7) ∧ (((h.2.1 11 7) ≤ x1 → Q (some (.int (zI 1))) h) ∧ (¬ ((h.2.1 11 7) ≤ x1) → fx_Mt l M_TG_valueOf (0, 0) [.ref 11, .int (zI 273), .int (zI x1)] h (fun v h4 => ∃ r6 : Int, v = some (.long (zL r6)) ∧ h4.1 = h.1 ∧ fx_Mt l M_TG_valueOf (0, 0) [.ref 11, .int (zI 279), .int (zI x1)] h4 (fun v h7 => ∃ r9 : Int, v = some (.long (zL r9)) ∧ h7.1 = h4.1 ∧ zR (h7.2.1 1 1) ∧ zRL (r6 + r9) ∧ zRL (h7.2.1 1 1) ∧ (((zC (r6 + r9) (h7.2.1 1 1)) ≤ 0 → (fx_V l M_TG_stripsAreInFile (0, 0) Q 0 0 2 [some (.ref 11), some (.int (zI (x1 + 1)))] [] h7)) ∧ (¬ ((zC (r6 + r9) (h7.2.1 1 1)) ≤ 0) → Q (some (.int (zI 0))) h7))))))) :
    fx_V l M_TG_stripsAreInFile (0, 0) Q 0 0 2 [some (.ref 11), some (.int (zI x1))] [] h := by
  refine fx_iload_n (i := 1) d_TG_stripsAreInFile_2 rfl rfl ?_
  refine fx_aload_n (i := 0) d_TG_stripsAreInFile_3 rfl rfl ?_
  refine fx_getI d_TG_stripsAreInFile_4 lk_TG_98 (at_11 (h := _) hS) rfl ?_
  obtain ⟨hz1, H⟩ := H
  obtain ⟨hz2, H⟩ := H
  refine fx_icmp_ge (t := 47) (n := 10) d_TG_stripsAreInFile_7 hz1 hz2 (fun z3 => ?_) (fun z3 => ?_)
  · replace H := H.1 z3
    refine fx_iconst d_TG_stripsAreInFile_47 ?_
    exact fx_end (some (.int (zI 1))) ⟨⟨_, rfl, rfl⟩, d_TG_stripsAreInFile_48⟩ (Nat.le_refl _) (Nat.le_refl _) rfl H
  · replace H := H.2 z3
    refine fx_aload_n (i := 0) d_TG_stripsAreInFile_10 rfl rfl ?_
    refine fx_sipush (v := 273) d_TG_stripsAreInFile_11 rfl ?_
    refine fx_iload_n (i := 1) d_TG_stripsAreInFile_14 rfl rfl ?_
    refine fx_callV (M' := M_TG_valueOf) (B' := (0, 0)) (vs := [.int (zI 273), .int (zI x1)]) (rest := []) (c1 := 0) (s1 := 0) (n := 18) d_TG_stripsAreInFile_15 ca_TG_stripsAreInFile_105 (at_11 (h := _) hS) rfl rfl rfl ⟨by decide, by decide⟩ (Nat.le_of_ble_eq_true rfl) (Or.inl rfl) (fx_Mt.mono H fun v h4 hv => ?_)
    obtain ⟨r6, rfl, e5, H⟩ := hv
    have hS4 := e5.trans hS
    show fx_V l M_TG_stripsAreInFile (0, 0) Q 0 0 18 [some (.ref 11), some (.int (zI x1))] [.long (zL r6)] h4
    refine fx_aload_n (i := 0) d_TG_stripsAreInFile_18 rfl rfl ?_
    refine fx_sipush (v := 279) d_TG_stripsAreInFile_19 rfl ?_
    refine fx_iload_n (i := 1) d_TG_stripsAreInFile_22 rfl rfl ?_
    refine fx_callV (M' := M_TG_valueOf) (B' := (0, 0)) (vs := [.int (zI 279), .int (zI x1)]) (rest := [.long (zL r6)]) (c1 := 0) (s1 := 0) (n := 26) d_TG_stripsAreInFile_23 ca_TG_stripsAreInFile_105 (at_11 (h := _) hS4) rfl rfl rfl ⟨by decide, by decide⟩ (Nat.le_of_ble_eq_true rfl) (Or.inl rfl) (fx_Mt.mono H fun v h7 hv => ?_)
    obtain ⟨r9, rfl, e8, H⟩ := hv
    have hS7 := e8.trans hS4
    show fx_V l M_TG_stripsAreInFile (0, 0) Q 0 0 26 [some (.ref 11), some (.int (zI x1))] [.long (zL r9), .long (zL r6)] h7
    refine fx_ladd d_TG_stripsAreInFile_26 ?_
    refine fx_aload_n (i := 0) d_TG_stripsAreInFile_27 rfl rfl ?_
    refine fx_getR (q := 1) d_TG_stripsAreInFile_28 lk_TG_9 (at_11 (h := _) hS7) rfl rfl ?_
    refine fx_getI d_TG_stripsAreInFile_31 lk_TG_49 (at_1 (h := _) hS7) rfl ?_
    obtain ⟨hz10, H⟩ := H
    refine fx_i2l d_TG_stripsAreInFile_34 hz10 ?_
    obtain ⟨hz11, H⟩ := H
    obtain ⟨hz12, H⟩ := H
    refine fx_lcmp d_TG_stripsAreInFile_35 hz11 hz12 ?_
    refine fx_if_le (t := 41) (n := 39) d_TG_stripsAreInFile_36 (zC_R _ _) (fun z13 => ?_) (fun z13 => ?_)
    · replace H := H.1 z13
      refine fx_iinc (v := x1 + 1) (ls2 := [some (.ref 11), some (.int (zI (x1 + 1)))]) d_TG_stripsAreInFile_41 rfl rfl (by decide) rfl ?_
      refine fx_goto (n := 2) d_TG_stripsAreInFile_44 ?_
      exact H
    · replace H := H.2 z13
      refine fx_iconst d_TG_stripsAreInFile_39 ?_
      exact fx_end (some (.int (zI 0))) ⟨⟨_, rfl, rfl⟩, d_TG_stripsAreInFile_40⟩ (Nat.le_refl _) (Nat.le_refl _) rfl H

set_option maxRecDepth 100000 in
set_option maxHeartbeats 4000000 in
theorem e_TG_understand {l : Launch} {Q : Option Value → fx_H → Prop} {h : fx_H}    {a : Nat → Nat} {pp dd : Nat} (hS : h.1 = fx_S0 a pp dd) 
    (H : fx_Mt l M_TG_findTags (0, 0) [.ref 11] h (fun v h1 => ∃ r3 : Int, v = some (.int (zI r3)) ∧ h1.1 = h.1 ∧ zR r3 ∧ ((r3 = 0 → Q (some (.int (zI 0))) h1) ∧ (¬ (r3 = 0) → fx_Mt l M_TG_understandPicture (0, 0) [.ref 11] h1 (fun v h6 => ∃ r8 : Int, v = some (.int (zI r8)) ∧ h6.1 = h1.1 ∧ zR r8 ∧ ((r8 = 0 → Q (some (.int (zI 0))) h6) ∧ (¬ (r8 = 0) → fx_Mt l M_TG_understandScheme (0, 0) [.ref 11] h6 (fun v h11 => ∃ r13 : Int, v = some (.int (zI r13)) ∧ h11.1 = h6.1 ∧ zR r13 ∧ ((r13 = 0 → Q (some (.int (zI 0))) h11) ∧ (¬ (r13 = 0) → fx_Mt l M_TG_understandStrips (0, 0) [.ref 11] h11 (fun v h16 => ∃ r18 : Int, v = some (.int (zI r18)) ∧ h16.1 = h11.1 ∧ zR r18 ∧ ((r18 = 0 → Q (some (.int (zI 0))) h16) ∧ (¬ (r18 = 0) → Q (some (.int (zI 1))) h16))))))))))))) :
    fx_Mt l M_TG_understand (0, 0) [.ref 11] h Q := by
  refine fx_entry (ls := [some (.ref 11)]) (by decide) (Nat.le_of_ble_eq_true rfl) rfl ?_
  refine fx_aload_n (i := 0) d_TG_understand_0 rfl rfl ?_
  refine fx_callV (M' := M_TG_findTags) (B' := (0, 0)) (vs := []) (rest := []) (c1 := 0) (s1 := 0) (n := 4) d_TG_understand_1 ca_TG_understand_22 (at_11 (h := _) hS) rfl rfl rfl ⟨by decide, by decide⟩ (Nat.le_of_ble_eq_true rfl) (Or.inl rfl) (fx_Mt.mono H fun v h1 hv => ?_)
  obtain ⟨r3, rfl, e2, H⟩ := hv
  have hS1 := e2.trans hS
  show fx_V l M_TG_understand (0, 0) Q 0 0 4 [some (.ref 11)] [.int (zI r3)] h1
  obtain ⟨hz4, H⟩ := H
  refine fx_if_eq (t := 32) (n := 7) d_TG_understand_4 hz4 (fun z5 => ?_) (fun z5 => ?_)
  · replace H := H.1 z5
    refine fx_iconst d_TG_understand_32 ?_
    exact fx_end (some (.int (zI 0))) ⟨⟨_, rfl, rfl⟩, d_TG_understand_33⟩ (Nat.le_refl _) (Nat.le_refl _) rfl H
  · replace H := H.2 z5
    refine fx_aload_n (i := 0) d_TG_understand_7 rfl rfl ?_
    refine fx_callV (M' := M_TG_understandPicture) (B' := (0, 0)) (vs := []) (rest := []) (c1 := 0) (s1 := 0) (n := 11) d_TG_understand_8 ca_TG_understand_26 (at_11 (h := _) hS1) rfl rfl rfl ⟨by decide, by decide⟩ (Nat.le_of_ble_eq_true rfl) (Or.inl rfl) (fx_Mt.mono H fun v h6 hv => ?_)
    obtain ⟨r8, rfl, e7, H⟩ := hv
    have hS6 := e7.trans hS1
    show fx_V l M_TG_understand (0, 0) Q 0 0 11 [some (.ref 11)] [.int (zI r8)] h6
    obtain ⟨hz9, H⟩ := H
    refine fx_if_eq (t := 32) (n := 14) d_TG_understand_11 hz9 (fun z10 => ?_) (fun z10 => ?_)
    · replace H := H.1 z10
      refine fx_iconst d_TG_understand_32 ?_
      exact fx_end (some (.int (zI 0))) ⟨⟨_, rfl, rfl⟩, d_TG_understand_33⟩ (Nat.le_refl _) (Nat.le_refl _) rfl H
    · replace H := H.2 z10
      refine fx_aload_n (i := 0) d_TG_understand_14 rfl rfl ?_
      refine fx_callV (M' := M_TG_understandScheme) (B' := (0, 0)) (vs := []) (rest := []) (c1 := 0) (s1 := 0) (n := 18) d_TG_understand_15 ca_TG_understand_29 (at_11 (h := _) hS6) rfl rfl rfl ⟨by decide, by decide⟩ (Nat.le_of_ble_eq_true rfl) (Or.inl rfl) (fx_Mt.mono H fun v h11 hv => ?_)
      obtain ⟨r13, rfl, e12, H⟩ := hv
      have hS11 := e12.trans hS6
      show fx_V l M_TG_understand (0, 0) Q 0 0 18 [some (.ref 11)] [.int (zI r13)] h11
      obtain ⟨hz14, H⟩ := H
      refine fx_if_eq (t := 32) (n := 21) d_TG_understand_18 hz14 (fun z15 => ?_) (fun z15 => ?_)
      · replace H := H.1 z15
        refine fx_iconst d_TG_understand_32 ?_
        exact fx_end (some (.int (zI 0))) ⟨⟨_, rfl, rfl⟩, d_TG_understand_33⟩ (Nat.le_refl _) (Nat.le_refl _) rfl H
      · replace H := H.2 z15
        refine fx_aload_n (i := 0) d_TG_understand_21 rfl rfl ?_
        refine fx_callV (M' := M_TG_understandStrips) (B' := (0, 0)) (vs := []) (rest := []) (c1 := 0) (s1 := 0) (n := 25) d_TG_understand_22 ca_TG_understand_32 (at_11 (h := _) hS11) rfl rfl rfl ⟨by decide, by decide⟩ (Nat.le_of_ble_eq_true rfl) (Or.inl rfl) (fx_Mt.mono H fun v h16 hv => ?_)
        obtain ⟨r18, rfl, e17, H⟩ := hv
        have hS16 := e17.trans hS11
        show fx_V l M_TG_understand (0, 0) Q 0 0 25 [some (.ref 11)] [.int (zI r18)] h16
        obtain ⟨hz19, H⟩ := H
        refine fx_if_eq (t := 32) (n := 28) d_TG_understand_25 hz19 (fun z20 => ?_) (fun z20 => ?_)
        · replace H := H.1 z20
          refine fx_iconst d_TG_understand_32 ?_
          exact fx_end (some (.int (zI 0))) ⟨⟨_, rfl, rfl⟩, d_TG_understand_33⟩ (Nat.le_refl _) (Nat.le_refl _) rfl H
        · replace H := H.2 z20
          refine fx_iconst d_TG_understand_28 ?_
          refine fx_goto (n := 33) d_TG_understand_29 ?_
          exact fx_end (some (.int (zI 1))) ⟨⟨_, rfl, rfl⟩, d_TG_understand_33⟩ (Nat.le_refl _) (Nat.le_refl _) rfl H

set_option maxRecDepth 100000 in
set_option maxHeartbeats 4000000 in
theorem e_FP_isByte {l : Launch} {Q : Option Value → fx_H → Prop} {h : fx_H}  {b : Int}  {a : Nat → Nat} {pp dd : Nat} (hS : h.1 = fx_S0 a pp dd) 
    (H : zR b ∧ ((b < 0 → Q (some (.int (zI 0))) h) ∧ (¬ (b < 0) → ((255 < b → Q (some (.int (zI 0))) h) ∧ (¬ (255 < b) → Q (some (.int (zI 1))) h))))) :
    fx_Mt l M_FP_isByte (0, 0) [.int (zI b)] h Q := by
  refine fx_entry (ls := [some (.int (zI b))]) (by decide) (Nat.le_of_ble_eq_true rfl) rfl ?_
  refine fx_iload_n (i := 0) d_FP_isByte_0 rfl rfl ?_
  obtain ⟨hz1, H⟩ := H
  refine fx_if_lt (t := 15) (n := 4) d_FP_isByte_1 hz1 (fun z2 => ?_) (fun z2 => ?_)
  · replace H := H.1 z2
    refine fx_iconst d_FP_isByte_15 ?_
    exact fx_end (some (.int (zI 0))) ⟨⟨_, rfl, rfl⟩, d_FP_isByte_16⟩ (Nat.le_refl _) (Nat.le_refl _) rfl H
  · replace H := H.2 z2
    refine fx_iload_n (i := 0) d_FP_isByte_4 rfl rfl ?_
    refine fx_sipush (v := 255) d_FP_isByte_5 rfl ?_
    refine fx_icmp_gt (t := 15) (n := 11) d_FP_isByte_8 hz1 (show zR 255 by decide) (fun z3 => ?_) (fun z3 => ?_)
    · replace H := H.1 z3
      refine fx_iconst d_FP_isByte_15 ?_
      exact fx_end (some (.int (zI 0))) ⟨⟨_, rfl, rfl⟩, d_FP_isByte_16⟩ (Nat.le_refl _) (Nat.le_refl _) rfl H
    · replace H := H.2 z3
      refine fx_iconst d_FP_isByte_11 ?_
      refine fx_goto (n := 16) d_FP_isByte_12 ?_
      exact fx_end (some (.int (zI 1))) ⟨⟨_, rfl, rfl⟩, d_FP_isByte_16⟩ (Nat.le_refl _) (Nat.le_refl _) rfl H

set_option maxRecDepth 100000 in
set_option maxHeartbeats 4000000 in
theorem e_FP_isFax {l : Launch} {Q : Option Value → fx_H → Prop} {h : fx_H}  {s : Int}  {a : Nat → Nat} {pp dd : Nat} (hS : h.1 = fx_S0 a pp dd) 
    (H : zRL s ∧ (((zC s 3) = 0 → Q (some (.int (zI 1))) h) ∧ (¬ ((zC s 3) = 0) → ((¬ (zC s 4) = 0 → Q (some (.int (zI 0))) h) ∧ ((zC s 4) = 0 → Q (some (.int (zI 1))) h))))) :
    fx_Mt l M_FP_isFax (0, 0) [.long (zL s)] h Q := by
  refine fx_entry (ls := [some (.long (zL s)), none]) (by decide) (Nat.le_of_ble_eq_true rfl) rfl ?_
  refine fx_lload_n (i := 0) d_FP_isFax_0 rfl rfl ?_
  refine fx_ldc2 (v := 3) d_FP_isFax_1 (fx_in 413 (by decide +kernel) rfl) ?_
  obtain ⟨hz1, H⟩ := H
  refine fx_lcmp d_FP_isFax_4 hz1 (show zRL 3 by decide) ?_
  refine fx_if_eq (t := 16) (n := 8) d_FP_isFax_5 (zC_R _ _) (fun z2 => ?_) (fun z2 => ?_)
  · replace H := H.1 z2
    refine fx_iconst d_FP_isFax_16 ?_
    refine fx_goto (n := 21) d_FP_isFax_17 ?_
    exact fx_end (some (.int (zI 1))) ⟨⟨_, rfl, rfl⟩, d_FP_isFax_21⟩ (Nat.le_refl _) (Nat.le_refl _) rfl H
  · replace H := H.2 z2
    refine fx_lload_n (i := 0) d_FP_isFax_8 rfl rfl ?_
    refine fx_ldc2 (v := 4) d_FP_isFax_9 (fx_in 414 (by decide +kernel) rfl) ?_
    refine fx_lcmp d_FP_isFax_12 hz1 (show zRL 4 by decide) ?_
    refine fx_if_ne (t := 20) (n := 16) d_FP_isFax_13 (zC_R _ _) (fun z3 => ?_) (fun z3 => ?_)
    · replace H := H.1 z3
      refine fx_iconst d_FP_isFax_20 ?_
      exact fx_end (some (.int (zI 0))) ⟨⟨_, rfl, rfl⟩, d_FP_isFax_21⟩ (Nat.le_refl _) (Nat.le_refl _) rfl H
    · replace H := H.2 z3
      refine fx_iconst d_FP_isFax_16 ?_
      refine fx_goto (n := 21) d_FP_isFax_17 ?_
      exact fx_end (some (.int (zI 1))) ⟨⟨_, rfl, rfl⟩, d_FP_isFax_21⟩ (Nat.le_refl _) (Nat.le_refl _) rfl H

set_option maxRecDepth 100000 in
set_option maxHeartbeats 4000000 in
theorem e_FP_isScheme {l : Launch} {Q : Option Value → fx_H → Prop} {h : fx_H}  {s : Int}  {a : Nat → Nat} {pp dd : Nat} (hS : h.1 = fx_S0 a pp dd) 
    (H : zRL s ∧ (((zC s 1) = 0 → Q (some (.int (zI 1))) h) ∧ (¬ ((zC s 1) = 0) → (((zC s 32773) = 0 → Q (some (.int (zI 1))) h) ∧ (¬ ((zC s 32773) = 0) → (((zC s 5) = 0 → Q (some (.int (zI 1))) h) ∧ (¬ ((zC s 5) = 0) → fx_Mt l M_FP_isFax (0, 0) [.long (zL s)] h (fun v h5 => ∃ r7 : Int, v = some (.int (zI r7)) ∧ h5.1 = h.1 ∧ zR r7 ∧ ((r7 = 0 → Q (some (.int (zI 0))) h5) ∧ (¬ (r7 = 0) → Q (some (.int (zI 1))) h5)))))))))) :
    fx_Mt l M_FP_isScheme (0, 0) [.long (zL s)] h Q := by
  refine fx_entry (ls := [some (.long (zL s)), none]) (by decide) (Nat.le_of_ble_eq_true rfl) rfl ?_
  refine fx_lload_n (i := 0) d_FP_isScheme_0 rfl rfl ?_
  refine fx_lconst (v := 1) d_FP_isScheme_1 rfl ?_
  obtain ⟨hz1, H⟩ := H
  refine fx_lcmp d_FP_isScheme_2 hz1 (show zRL 1 by decide) ?_
  refine fx_if_eq (t := 29) (n := 6) d_FP_isScheme_3 (zC_R _ _) (fun z2 => ?_) (fun z2 => ?_)
  · replace H := H.1 z2
    refine fx_iconst d_FP_isScheme_29 ?_
    refine fx_goto (n := 34) d_FP_isScheme_30 ?_
    exact fx_end (some (.int (zI 1))) ⟨⟨_, rfl, rfl⟩, d_FP_isScheme_34⟩ (Nat.le_refl _) (Nat.le_refl _) rfl H
  · replace H := H.2 z2
    refine fx_lload_n (i := 0) d_FP_isScheme_6 rfl rfl ?_
    refine fx_ldc2 (v := 32773) d_FP_isScheme_7 (fx_in 408 (by decide +kernel) rfl) ?_
    refine fx_lcmp d_FP_isScheme_10 hz1 (show zRL 32773 by decide) ?_
    refine fx_if_eq (t := 29) (n := 14) d_FP_isScheme_11 (zC_R _ _) (fun z3 => ?_) (fun z3 => ?_)
    · replace H := H.1 z3
      refine fx_iconst d_FP_isScheme_29 ?_
      refine fx_goto (n := 34) d_FP_isScheme_30 ?_
      exact fx_end (some (.int (zI 1))) ⟨⟨_, rfl, rfl⟩, d_FP_isScheme_34⟩ (Nat.le_refl _) (Nat.le_refl _) rfl H
    · replace H := H.2 z3
      refine fx_lload_n (i := 0) d_FP_isScheme_14 rfl rfl ?_
      refine fx_ldc2 (v := 5) d_FP_isScheme_15 (fx_in 409 (by decide +kernel) rfl) ?_
      refine fx_lcmp d_FP_isScheme_18 hz1 (show zRL 5 by decide) ?_
      refine fx_if_eq (t := 29) (n := 22) d_FP_isScheme_19 (zC_R _ _) (fun z4 => ?_) (fun z4 => ?_)
      · replace H := H.1 z4
        refine fx_iconst d_FP_isScheme_29 ?_
        refine fx_goto (n := 34) d_FP_isScheme_30 ?_
        exact fx_end (some (.int (zI 1))) ⟨⟨_, rfl, rfl⟩, d_FP_isScheme_34⟩ (Nat.le_refl _) (Nat.le_refl _) rfl H
      · replace H := H.2 z4
        refine fx_lload_n (i := 0) d_FP_isScheme_22 rfl rfl ?_
        refine fx_callS (M' := M_FP_isFax) (B' := (0, 0)) (vs := [.long (zL s)]) (rest := []) (c1 := 0) (s1 := 0) (n := 26) d_FP_isScheme_23 ca_FP_isScheme_132 rfl rfl ⟨by decide, by decide⟩ (Nat.le_of_ble_eq_true rfl) (Or.inl rfl) (fx_Mt.mono H fun v h5 hv => ?_)
        obtain ⟨r7, rfl, e6, H⟩ := hv
        have hS5 := e6.trans hS
        show fx_V l M_FP_isScheme (0, 0) Q 0 0 26 [some (.long (zL s)), none] [.int (zI r7)] h5
        obtain ⟨hz8, H⟩ := H
        refine fx_if_eq (t := 33) (n := 29) d_FP_isScheme_26 hz8 (fun z9 => ?_) (fun z9 => ?_)
        · replace H := H.1 z9
          refine fx_iconst d_FP_isScheme_33 ?_
          exact fx_end (some (.int (zI 0))) ⟨⟨_, rfl, rfl⟩, d_FP_isScheme_34⟩ (Nat.le_refl _) (Nat.le_refl _) rfl H
        · replace H := H.2 z9
          refine fx_iconst d_FP_isScheme_29 ?_
          refine fx_goto (n := 34) d_FP_isScheme_30 ?_
          exact fx_end (some (.int (zI 1))) ⟨⟨_, rfl, rfl⟩, d_FP_isScheme_34⟩ (Nat.le_refl _) (Nat.le_refl _) rfl H

set_option maxRecDepth 100000 in
set_option maxHeartbeats 4000000 in
theorem e_FP_sizeCanBe {l : Launch} {Q : Option Value → fx_H → Prop} {h : fx_H}  {g : Int} {x : Int} {y : Int}  {a : Nat → Nat} {pp dd : Nat} (hS : h.1 = fx_S0 a pp dd) 
    (H : zRL x ∧ (((zC x 1) < 0 → Q (some (.int (zI 0))) h) ∧ (¬ ((zC x 1) < 0) → zR g ∧ ((g = 0 → ((0 < (zC x 40) → Q (some (.int (zI 0))) h) ∧ (¬ (0 < (zC x 40)) → zRL y ∧ (((zC y 1) < 0 → Q (some (.int (zI 0))) h) ∧ (¬ ((zC y 1) < 0) → ((g = 0 → ((0 < (zC y 24) → Q (some (.int (zI 0))) h) ∧ (¬ (0 < (zC y 24)) → Q (some (.int (zI 1))) h))) ∧ (¬ (g = 0) → ((0 < (zC y 20) → Q (some (.int (zI 0))) h) ∧ (¬ (0 < (zC y 20)) → Q (some (.int (zI 1))) h))))))))) ∧ (¬ (g = 0) → ((0 < (zC x 20) → Q (some (.int (zI 0))) h) ∧ (¬ (0 < (zC x 20)) → zRL y ∧ (((zC y 1) < 0 → Q (some (.int (zI 0))) h) ∧ (¬ ((zC y 1) < 0) → ((g = 0 → ((0 < (zC y 24) → Q (some (.int (zI 0))) h) ∧ (¬ (0 < (zC y 24)) → Q (some (.int (zI 1))) h))) ∧ (¬ (g = 0) → ((0 < (zC y 20) → Q (some (.int (zI 0))) h) ∧ (¬ (0 < (zC y 20)) → Q (some (.int (zI 1))) h))))))))))))) :
    fx_Mt l M_FP_sizeCanBe (0, 0) [.int (zI g), .long (zL x), .long (zL y)] h Q := by
  refine fx_entry (ls := [some (.int (zI g)), some (.long (zL x)), none, some (.long (zL y)), none]) (by decide) (Nat.le_of_ble_eq_true rfl) rfl ?_
  refine fx_lload_n (i := 1) d_FP_sizeCanBe_0 rfl rfl ?_
  refine fx_lconst (v := 1) d_FP_sizeCanBe_1 rfl ?_
  obtain ⟨hz1, H⟩ := H
  refine fx_lcmp d_FP_sizeCanBe_2 hz1 (show zRL 1 by decide) ?_
  refine fx_if_lt (t := 50) (n := 6) d_FP_sizeCanBe_3 (zC_R _ _) (fun z2 => ?_) (fun z2 => ?_)
  · replace H := H.1 z2
    refine fx_iconst d_FP_sizeCanBe_50 ?_
    exact fx_end (some (.int (zI 0))) ⟨⟨_, rfl, rfl⟩, d_FP_sizeCanBe_51⟩ (Nat.le_refl _) (Nat.le_refl _) rfl H
  · replace H := H.2 z2
    refine fx_lload_n (i := 1) d_FP_sizeCanBe_6 rfl rfl ?_
    refine fx_iload_n (i := 0) d_FP_sizeCanBe_7 rfl rfl ?_
    obtain ⟨hz3, H⟩ := H
    refine fx_if_eq (t := 16) (n := 11) d_FP_sizeCanBe_8 hz3 (fun z4 => ?_) (fun z4 => ?_)
    · replace H := H.1 z4
      refine fx_bipush (v := 40) d_FP_sizeCanBe_16 rfl ?_
      refine fx_i2l d_FP_sizeCanBe_18 (show zR 40 by decide) ?_
      refine fx_lcmp d_FP_sizeCanBe_19 hz1 (show zRL 40 by decide) ?_
      refine fx_if_gt (t := 50) (n := 23) d_FP_sizeCanBe_20 (zC_R _ _) (fun z5 => ?_) (fun z5 => ?_)
      · replace H := H.1 z5
        refine fx_iconst d_FP_sizeCanBe_50 ?_
        exact fx_end (some (.int (zI 0))) ⟨⟨_, rfl, rfl⟩, d_FP_sizeCanBe_51⟩ (Nat.le_refl _) (Nat.le_refl _) rfl H
      · replace H := H.2 z5
        refine fx_lload_n (i := 3) d_FP_sizeCanBe_23 rfl rfl ?_
        refine fx_lconst (v := 1) d_FP_sizeCanBe_24 rfl ?_
        obtain ⟨hz6, H⟩ := H
        refine fx_lcmp d_FP_sizeCanBe_25 hz6 (show zRL 1 by decide) ?_
        refine fx_if_lt (t := 50) (n := 29) d_FP_sizeCanBe_26 (zC_R _ _) (fun z7 => ?_) (fun z7 => ?_)
        · replace H := H.1 z7
          refine fx_iconst d_FP_sizeCanBe_50 ?_
          exact fx_end (some (.int (zI 0))) ⟨⟨_, rfl, rfl⟩, d_FP_sizeCanBe_51⟩ (Nat.le_refl _) (Nat.le_refl _) rfl H
        · replace H := H.2 z7
          refine fx_lload_n (i := 3) d_FP_sizeCanBe_29 rfl rfl ?_
          refine fx_iload_n (i := 0) d_FP_sizeCanBe_30 rfl rfl ?_
          refine fx_if_eq (t := 39) (n := 34) d_FP_sizeCanBe_31 hz3 (fun z8 => ?_) (fun z8 => ?_)
          · replace H := H.1 z8
            refine fx_bipush (v := 24) d_FP_sizeCanBe_39 rfl ?_
            refine fx_i2l d_FP_sizeCanBe_41 (show zR 24 by decide) ?_
            refine fx_lcmp d_FP_sizeCanBe_42 hz6 (show zRL 24 by decide) ?_
            refine fx_if_gt (t := 50) (n := 46) d_FP_sizeCanBe_43 (zC_R _ _) (fun z9 => ?_) (fun z9 => ?_)
            · replace H := H.1 z9
              refine fx_iconst d_FP_sizeCanBe_50 ?_
              exact fx_end (some (.int (zI 0))) ⟨⟨_, rfl, rfl⟩, d_FP_sizeCanBe_51⟩ (Nat.le_refl _) (Nat.le_refl _) rfl H
            · replace H := H.2 z9
              refine fx_iconst d_FP_sizeCanBe_46 ?_
              refine fx_goto (n := 51) d_FP_sizeCanBe_47 ?_
              exact fx_end (some (.int (zI 1))) ⟨⟨_, rfl, rfl⟩, d_FP_sizeCanBe_51⟩ (Nat.le_refl _) (Nat.le_refl _) rfl H
          · replace H := H.2 z8
            refine fx_bipush (v := 20) d_FP_sizeCanBe_34 rfl ?_
            refine fx_goto (n := 41) d_FP_sizeCanBe_36 ?_
            refine fx_i2l d_FP_sizeCanBe_41 (show zR 20 by decide) ?_
            refine fx_lcmp d_FP_sizeCanBe_42 hz6 (show zRL 20 by decide) ?_
            refine fx_if_gt (t := 50) (n := 46) d_FP_sizeCanBe_43 (zC_R _ _) (fun z10 => ?_) (fun z10 => ?_)
            · replace H := H.1 z10
              refine fx_iconst d_FP_sizeCanBe_50 ?_
              exact fx_end (some (.int (zI 0))) ⟨⟨_, rfl, rfl⟩, d_FP_sizeCanBe_51⟩ (Nat.le_refl _) (Nat.le_refl _) rfl H
            · replace H := H.2 z10
              refine fx_iconst d_FP_sizeCanBe_46 ?_
              refine fx_goto (n := 51) d_FP_sizeCanBe_47 ?_
              exact fx_end (some (.int (zI 1))) ⟨⟨_, rfl, rfl⟩, d_FP_sizeCanBe_51⟩ (Nat.le_refl _) (Nat.le_refl _) rfl H
    · replace H := H.2 z4
      refine fx_bipush (v := 20) d_FP_sizeCanBe_11 rfl ?_
      refine fx_goto (n := 18) d_FP_sizeCanBe_13 ?_
      refine fx_i2l d_FP_sizeCanBe_18 (show zR 20 by decide) ?_
      refine fx_lcmp d_FP_sizeCanBe_19 hz1 (show zRL 20 by decide) ?_
      refine fx_if_gt (t := 50) (n := 23) d_FP_sizeCanBe_20 (zC_R _ _) (fun z11 => ?_) (fun z11 => ?_)
      · replace H := H.1 z11
        refine fx_iconst d_FP_sizeCanBe_50 ?_
        exact fx_end (some (.int (zI 0))) ⟨⟨_, rfl, rfl⟩, d_FP_sizeCanBe_51⟩ (Nat.le_refl _) (Nat.le_refl _) rfl H
      · replace H := H.2 z11
        refine fx_lload_n (i := 3) d_FP_sizeCanBe_23 rfl rfl ?_
        refine fx_lconst (v := 1) d_FP_sizeCanBe_24 rfl ?_
        obtain ⟨hz12, H⟩ := H
        refine fx_lcmp d_FP_sizeCanBe_25 hz12 (show zRL 1 by decide) ?_
        refine fx_if_lt (t := 50) (n := 29) d_FP_sizeCanBe_26 (zC_R _ _) (fun z13 => ?_) (fun z13 => ?_)
        · replace H := H.1 z13
          refine fx_iconst d_FP_sizeCanBe_50 ?_
          exact fx_end (some (.int (zI 0))) ⟨⟨_, rfl, rfl⟩, d_FP_sizeCanBe_51⟩ (Nat.le_refl _) (Nat.le_refl _) rfl H
        · replace H := H.2 z13
          refine fx_lload_n (i := 3) d_FP_sizeCanBe_29 rfl rfl ?_
          refine fx_iload_n (i := 0) d_FP_sizeCanBe_30 rfl rfl ?_
          refine fx_if_eq (t := 39) (n := 34) d_FP_sizeCanBe_31 hz3 (fun z14 => ?_) (fun z14 => ?_)
          · replace H := H.1 z14
            refine fx_bipush (v := 24) d_FP_sizeCanBe_39 rfl ?_
            refine fx_i2l d_FP_sizeCanBe_41 (show zR 24 by decide) ?_
            refine fx_lcmp d_FP_sizeCanBe_42 hz12 (show zRL 24 by decide) ?_
            refine fx_if_gt (t := 50) (n := 46) d_FP_sizeCanBe_43 (zC_R _ _) (fun z15 => ?_) (fun z15 => ?_)
            · replace H := H.1 z15
              refine fx_iconst d_FP_sizeCanBe_50 ?_
              exact fx_end (some (.int (zI 0))) ⟨⟨_, rfl, rfl⟩, d_FP_sizeCanBe_51⟩ (Nat.le_refl _) (Nat.le_refl _) rfl H
            · replace H := H.2 z15
              refine fx_iconst d_FP_sizeCanBe_46 ?_
              refine fx_goto (n := 51) d_FP_sizeCanBe_47 ?_
              exact fx_end (some (.int (zI 1))) ⟨⟨_, rfl, rfl⟩, d_FP_sizeCanBe_51⟩ (Nat.le_refl _) (Nat.le_refl _) rfl H
          · replace H := H.2 z14
            refine fx_bipush (v := 20) d_FP_sizeCanBe_34 rfl ?_
            refine fx_goto (n := 41) d_FP_sizeCanBe_36 ?_
            refine fx_i2l d_FP_sizeCanBe_41 (show zR 20 by decide) ?_
            refine fx_lcmp d_FP_sizeCanBe_42 hz12 (show zRL 20 by decide) ?_
            refine fx_if_gt (t := 50) (n := 46) d_FP_sizeCanBe_43 (zC_R _ _) (fun z16 => ?_) (fun z16 => ?_)
            · replace H := H.1 z16
              refine fx_iconst d_FP_sizeCanBe_50 ?_
              exact fx_end (some (.int (zI 0))) ⟨⟨_, rfl, rfl⟩, d_FP_sizeCanBe_51⟩ (Nat.le_refl _) (Nat.le_refl _) rfl H
            · replace H := H.2 z16
              refine fx_iconst d_FP_sizeCanBe_46 ?_
              refine fx_goto (n := 51) d_FP_sizeCanBe_47 ?_
              exact fx_end (some (.int (zI 1))) ⟨⟨_, rfl, rfl⟩, d_FP_sizeCanBe_51⟩ (Nat.le_refl _) (Nat.le_refl _) rfl H

set_option maxRecDepth 100000 in
set_option maxHeartbeats 4000000 in
theorem e_FP_stripsOf {l : Launch} {Q : Option Value → fx_H → Prop} {h : fx_H}  {n : Int} {m : Int}  {a : Nat → Nat} {pp dd : Nat} (hS : h.1 = fx_S0 a pp dd) 
    (H : zR m ∧ ((1 ≤ m → 0 ≤ ((n + m) - 1) ∧ zR ((n + m) - 1) ∧ 0 < m ∧ Q (some (.int (zI (((n + m) - 1) / m)))) h) ∧ (¬ (1 ≤ m) → Q (some (.int (zI 0))) h))) :
    fx_Mt l M_FP_stripsOf (0, 0) [.int (zI n), .int (zI m)] h Q := by
  refine fx_entry (ls := [some (.int (zI n)), some (.int (zI m))]) (by decide) (Nat.le_of_ble_eq_true rfl) rfl ?_
  refine fx_iload_n (i := 1) d_FP_stripsOf_0 rfl rfl ?_
  refine fx_iconst d_FP_stripsOf_1 ?_
  obtain ⟨hz1, H⟩ := H
  refine fx_icmp_ge (t := 9) (n := 5) d_FP_stripsOf_2 hz1 (show zR 1 by decide) (fun z2 => ?_) (fun z2 => ?_)
  · replace H := H.1 z2
    refine fx_iload_n (i := 0) d_FP_stripsOf_9 rfl rfl ?_
    refine fx_iload_n (i := 1) d_FP_stripsOf_10 rfl rfl ?_
    refine fx_iadd d_FP_stripsOf_11 ?_
    refine fx_iconst d_FP_stripsOf_12 ?_
    refine fx_isub d_FP_stripsOf_13 ?_
    refine fx_iload_n (i := 1) d_FP_stripsOf_14 rfl rfl ?_
    obtain ⟨hn3, H⟩ := H
    obtain ⟨hz4, H⟩ := H
    obtain ⟨hn5, H⟩ := H
    refine fx_idiv d_FP_stripsOf_15 hn3 hz4 hn5 hz1 ?_
    exact fx_end (some (.int (zI (((n + m) - 1) / m)))) ⟨⟨_, rfl, rfl⟩, d_FP_stripsOf_16⟩ (Nat.le_refl _) (Nat.le_refl _) rfl H
  · replace H := H.2 z2
    refine fx_iconst d_FP_stripsOf_5 ?_
    refine fx_goto (n := 16) d_FP_stripsOf_6 ?_
    exact fx_end (some (.int (zI 0))) ⟨⟨_, rfl, rfl⟩, d_FP_stripsOf_16⟩ (Nat.le_refl _) (Nat.le_refl _) rfl H

