/-! what is owed of the numbers, by program (wip/printvc.py) -/
set_option maxRecDepth 100000 in
set_option maxHeartbeats 4000000 in
theorem e_BR_open {l : Launch} {Q : Option Value → fx_H → Prop} {h : fx_H}  {q : Int} {n : Int}  {a : Nat → Nat} {pp dd : Nat} (hS : h.1 = fx_S0 a pp dd) 
    (H : Q none (fx_uF (fx_uF h 3 1 (8 * q)) 3 2 (8 * (q + n)))) :
    fx_Mt l M_BR_open (0, 0) [.ref 3, .int (zI q), .int (zI n)] h Q := by
  refine fx_entry (ls := [some (.ref 3), some (.int (zI q)), some (.int (zI n))]) (by decide) (Nat.le_of_ble_eq_true rfl) rfl ?_
  refine fx_aload_n (i := 0) d_BR_open_0 rfl rfl ?_
  refine fx_bipush (v := 8) d_BR_open_1 rfl ?_
  refine fx_iload_n (i := 1) d_BR_open_3 rfl rfl ?_
  refine fx_imul d_BR_open_4 ?_
  refine fx_putI d_BR_open_5 lk_BR_13 (at_3 (h := _) hS) rfl rfl rfl ?_
  refine fx_aload_n (i := 0) d_BR_open_8 rfl rfl ?_
  refine fx_bipush (v := 8) d_BR_open_9 rfl ?_
  refine fx_iload_n (i := 1) d_BR_open_11 rfl rfl ?_
  refine fx_iload_n (i := 2) d_BR_open_12 rfl rfl ?_
  refine fx_iadd d_BR_open_13 ?_
  refine fx_imul d_BR_open_14 ?_
  refine fx_putI d_BR_open_15 lk_BR_17 (at_3 (h := _) hS) rfl rfl rfl ?_
  exact fx_end none ⟨rfl, d_BR_open_18⟩ (Nat.le_refl _) (Nat.le_refl _) rfl H

set_option maxRecDepth 100000 in
set_option maxHeartbeats 4000000 in
theorem e_BR_bit {l : Launch} {Q : Option Value → fx_H → Prop} {h : fx_H}    {a : Nat → Nat} {pp dd : Nat} (hS : h.1 = fx_S0 a pp dd) 
    (H : zR (h.2.1 3 1) ∧ zR (h.2.1 3 2) ∧ (((h.2.1 3 1) < (h.2.1 3 2) → 0 ≤ (h.2.1 3 1) ∧ fx_Mt l M_BY_byteAt (0, 0) [.ref 1, .int (zI ((h.2.1 3 1) / 8))] h (fun v h5 => ∃ r7 : Int, v = some (.int (zI r7)) ∧ h5.1 = h.1 ∧ 0 ≤ (h5.2.1 3 1) ∧ zR (h5.2.1 3 1) ∧ (0 ≤ (7 - ((h5.2.1 3 1) % 8)) ∧ (7 - ((h5.2.1 3 1) % 8)) < 32) ∧ zR r7 ∧ Q (some (.int (zI ((r7 / 2 ^ (7 - ((h5.2.1 3 1) % 8)).toNat) % 2)))) (fx_uF h5 3 1 ((h5.2.1 3 1) + 1)))) ∧ (¬ ((h.2.1 3 1) < (h.2.1 3 2)) → Q (some (.int (zI (-1)))) h))) :
    fx_Mt l M_BR_bit (0, 0) [.ref 3] h Q := by
  refine fx_entry (ls := [some (.ref 3), none]) (by decide) (Nat.le_of_ble_eq_true rfl) rfl ?_
  refine fx_aload_n (i := 0) d_BR_bit_0 rfl rfl ?_
  refine fx_getI d_BR_bit_1 lk_BR_13 (at_3 (h := _) hS) rfl ?_
  refine fx_aload_n (i := 0) d_BR_bit_4 rfl rfl ?_
  refine fx_getI d_BR_bit_5 lk_BR_17 (at_3 (h := _) hS) rfl ?_
  obtain ⟨hz1, H⟩ := H
  obtain ⟨hz2, H⟩ := H
  refine fx_icmp_lt (t := 13) (n := 11) d_BR_bit_8 hz1 hz2 (fun z3 => ?_) (fun z3 => ?_)
  · replace H := H.1 z3
    refine fx_aload_n (i := 0) d_BR_bit_13 rfl rfl ?_
    refine fx_getR (q := 1) d_BR_bit_14 lk_BR_7 (at_3 (h := _) hS) rfl rfl ?_
    refine fx_aload_n (i := 0) d_BR_bit_17 rfl rfl ?_
    refine fx_getI d_BR_bit_18 lk_BR_13 (at_3 (h := _) hS) rfl ?_
    refine fx_bipush (v := 8) d_BR_bit_21 rfl ?_
    obtain ⟨hn4, H⟩ := H
    refine fx_idiv d_BR_bit_23 hn4 hz1 (show (0 : Int) < 8 by decide) (show zR 8 by decide) ?_
    refine fx_callV (M' := M_BY_byteAt) (B' := (0, 0)) (vs := [.int (zI ((h.2.1 3 1) / 8))]) (rest := []) (c1 := 0) (s1 := 0) (n := 27) d_BR_bit_24 ca_BR_bit_20 (at_1 (h := _) hS) rfl rfl rfl ⟨by decide, by decide⟩ (Nat.le_of_ble_eq_true rfl) (Or.inl rfl) (fx_Mt.mono H fun v h5 hv => ?_)
    obtain ⟨r7, rfl, e6, H⟩ := hv
    have hS5 := e6.trans hS
    show fx_V l M_BR_bit (0, 0) Q 0 0 27 [some (.ref 3), none] [.int (zI r7)] h5
    refine fx_bipush (v := 7) d_BR_bit_27 rfl ?_
    refine fx_aload_n (i := 0) d_BR_bit_29 rfl rfl ?_
    refine fx_getI d_BR_bit_30 lk_BR_13 (at_3 (h := _) hS5) rfl ?_
    refine fx_bipush (v := 8) d_BR_bit_33 rfl ?_
    obtain ⟨hn8, H⟩ := H
    obtain ⟨hz9, H⟩ := H
    refine fx_irem d_BR_bit_35 hn8 hz9 (show (0 : Int) < 8 by decide) (show zR 8 by decide) ?_
    refine fx_isub d_BR_bit_36 ?_
    obtain ⟨hn10, H⟩ := H
    have ez11 : (((7 - ((h5.2.1 3 1) % 8)).toNat : Nat) : Int) = 7 - ((h5.2.1 3 1) % 8) := Int.toNat_of_nonneg hn10.1
    refine fx_eqv (st2 := [(.int (zI (((7 - ((h5.2.1 3 1) % 8)).toNat : Nat) : Int))), .int (zI r7)]) (by rw [ez11]) ?_
    obtain ⟨hz12, H⟩ := H
    refine fx_ishr (j := (7 - ((h5.2.1 3 1) % 8)).toNat) d_BR_bit_37 hz12 (by omega) ?_
    refine fx_iconst d_BR_bit_38 ?_
    refine fx_and1 d_BR_bit_39 ?_
    refine fx_istore_n (i := 1) (ls2 := [some (.ref 3), some (.int (zI ((r7 / 2 ^ (7 - ((h5.2.1 3 1) % 8)).toNat) % 2)))]) d_BR_bit_40 rfl (by decide) rfl ?_
    refine fx_aload_n (i := 0) d_BR_bit_41 rfl rfl ?_
    refine fx_dup d_BR_bit_42 rfl ?_
    refine fx_getI d_BR_bit_43 lk_BR_13 (at_3 (h := _) hS5) rfl ?_
    refine fx_iconst d_BR_bit_46 ?_
    refine fx_iadd d_BR_bit_47 ?_
    refine fx_putI d_BR_bit_48 lk_BR_13 (at_3 (h := _) hS5) rfl rfl rfl ?_
    refine fx_iload_n (i := 1) d_BR_bit_51 rfl rfl ?_
    exact fx_end (some (.int (zI ((r7 / 2 ^ (7 - ((h5.2.1 3 1) % 8)).toNat) % 2)))) ⟨⟨_, rfl, rfl⟩, d_BR_bit_52⟩ (Nat.le_refl _) (Nat.le_refl _) rfl H
  · replace H := H.2 z3
    refine fx_iconst d_BR_bit_11 ?_
    exact fx_end (some (.int (zI (-1)))) ⟨⟨_, rfl, rfl⟩, d_BR_bit_12⟩ (Nat.le_refl _) (Nat.le_refl _) rfl H

set_option maxRecDepth 100000 in
set_option maxHeartbeats 4000000 in
theorem e_BR_number {l : Launch} {Q : Option Value → fx_H → Prop} {h : fx_H}  {n : Int}  {a : Nat → Nat} {pp dd : Nat} (hS : h.1 = fx_S0 a pp dd) 
    (H : zR ((h.2.1 3 2) - (h.2.1 3 1)) ∧ zR n ∧ ((n ≤ ((h.2.1 3 2) - (h.2.1 3 1)) → (fx_V l M_BR_number (0, 0) Q 0 0 19 [some (.ref 3), some (.int (zI n)), some (.int (zI 0)), some (.int (zI 0))] [] h)) ∧ (¬ (n ≤ ((h.2.1 3 2) - (h.2.1 3 1))) → Q (some (.int (zI (-1)))) h))) :
    fx_Mt l M_BR_number (0, 0) [.ref 3, .int (zI n)] h Q := by
  refine fx_entry (ls := [some (.ref 3), some (.int (zI n)), none, none]) (by decide) (Nat.le_of_ble_eq_true rfl) rfl ?_
  refine fx_aload_n (i := 0) d_BR_number_0 rfl rfl ?_
  refine fx_getI d_BR_number_1 lk_BR_17 (at_3 (h := _) hS) rfl ?_
  refine fx_aload_n (i := 0) d_BR_number_4 rfl rfl ?_
  refine fx_getI d_BR_number_5 lk_BR_13 (at_3 (h := _) hS) rfl ?_
  refine fx_isub d_BR_number_8 ?_
  refine fx_iload_n (i := 1) d_BR_number_9 rfl rfl ?_
  obtain ⟨hz1, H⟩ := H
  obtain ⟨hz2, H⟩ := H
  refine fx_icmp_ge (t := 15) (n := 13) d_BR_number_10 hz1 hz2 (fun z3 => ?_) (fun z3 => ?_)
  · replace H := H.1 z3
    refine fx_iconst d_BR_number_15 ?_
    refine fx_istore_n (i := 2) (ls2 := [some (.ref 3), some (.int (zI n)), some (.int (zI 0)), none]) d_BR_number_16 rfl (by decide) rfl ?_
    refine fx_iconst d_BR_number_17 ?_
    refine fx_istore_n (i := 3) (ls2 := [some (.ref 3), some (.int (zI n)), some (.int (zI 0)), some (.int (zI 0))]) d_BR_number_18 rfl (by decide) rfl ?_
    exact H
  · replace H := H.2 z3
    refine fx_iconst d_BR_number_13 ?_
    exact fx_end (some (.int (zI (-1)))) ⟨⟨_, rfl, rfl⟩, d_BR_number_14⟩ (Nat.le_refl _) (Nat.le_refl _) rfl H

set_option maxRecDepth 100000 in
set_option maxHeartbeats 4000000 in
theorem w_BR_number_19 {l : Launch} {Q : Option Value → fx_H → Prop} {h : fx_H}  {x1 : Int} {x2 : Int} {x3 : Int}  {a : Nat → Nat} {pp dd : Nat} (hS : h.1 = fx_S0 a pp dd) 
    (H : zR x3 ∧ zR x1 ∧ ((x1 ≤ x3 → Q (some (.int (zI x2))) h) ∧ (¬ (x1 ≤ x3) → fx_Mt l M_BR_bit (0, 0) [.ref 3] h (fun v h4 => ∃ r6 : Int, v = some (.int (zI r6)) ∧ h4.1 = h.1 ∧ 0 ≤ (x2 * 2 ^ 1) ∧ (x2 * 2 ^ 1) < 2147483648 ∧ 0 ≤ r6 ∧ r6 < 2147483648 ∧ (fx_V l M_BR_number (0, 0) Q 0 0 19 [some (.ref 3), some (.int (zI x1)), some (.int (zI (zor (x2 * 2 ^ 1) r6))), some (.int (zI (x3 + 1)))] [] h4))))) :
    fx_V l M_BR_number (0, 0) Q 0 0 19 [some (.ref 3), some (.int (zI x1)), some (.int (zI x2)), some (.int (zI x3))] [] h := by
  refine fx_iload_n (i := 3) d_BR_number_19 rfl rfl ?_
  refine fx_iload_n (i := 1) d_BR_number_20 rfl rfl ?_
  obtain ⟨hz1, H⟩ := H
  obtain ⟨hz2, H⟩ := H
  refine fx_icmp_ge (t := 39) (n := 24) d_BR_number_21 hz1 hz2 (fun z3 => ?_) (fun z3 => ?_)
  · replace H := H.1 z3
    refine fx_iload_n (i := 2) d_BR_number_39 rfl rfl ?_
    exact fx_end (some (.int (zI x2))) ⟨⟨_, rfl, rfl⟩, d_BR_number_40⟩ (Nat.le_refl _) (Nat.le_refl _) rfl H
  · replace H := H.2 z3
    refine fx_iload_n (i := 2) d_BR_number_24 rfl rfl ?_
    refine fx_iconst d_BR_number_25 ?_
    refine fx_ishl (j := 1) d_BR_number_26 (by decide) ?_
    refine fx_aload_n (i := 0) d_BR_number_27 rfl rfl ?_
    refine fx_callV (M' := M_BR_bit) (B' := (0, 0)) (vs := []) (rest := [.int (zI (x2 * 2 ^ 1))]) (c1 := 0) (s1 := 0) (n := 31) d_BR_number_28 ca_BR_number_26 (at_3 (h := _) hS) rfl rfl rfl ⟨by decide, by decide⟩ (Nat.le_of_ble_eq_true rfl) (Or.inl rfl) (fx_Mt.mono H fun v h4 hv => ?_)
    obtain ⟨r6, rfl, e5, H⟩ := hv
    have hS4 := e5.trans hS
    show fx_V l M_BR_number (0, 0) Q 0 0 31 [some (.ref 3), some (.int (zI x1)), some (.int (zI x2)), some (.int (zI x3))] [.int (zI r6), .int (zI (x2 * 2 ^ 1))] h4
    obtain ⟨hn7, H⟩ := H
    obtain ⟨hn8, H⟩ := H
    obtain ⟨hn9, H⟩ := H
    obtain ⟨hn10, H⟩ := H
    refine fx_ior d_BR_number_31 hn7 hn8 hn9 hn10 ?_
    refine fx_istore_n (i := 2) (ls2 := [some (.ref 3), some (.int (zI x1)), some (.int (zI (zor (x2 * 2 ^ 1) r6))), some (.int (zI x3))]) d_BR_number_32 rfl (by decide) rfl ?_
    refine fx_iinc (v := x3 + 1) (ls2 := [some (.ref 3), some (.int (zI x1)), some (.int (zI (zor (x2 * 2 ^ 1) r6))), some (.int (zI (x3 + 1)))]) d_BR_number_33 rfl rfl (by decide) rfl ?_
    refine fx_goto (n := 19) d_BR_number_36 ?_
    exact H

set_option maxRecDepth 100000 in
set_option maxHeartbeats 4000000 in
theorem e_BR_atEnd {l : Launch} {Q : Option Value → fx_H → Prop} {h : fx_H}    {a : Nat → Nat} {pp dd : Nat} (hS : h.1 = fx_S0 a pp dd) 
    (H : zR (h.2.1 3 1) ∧ zR (h.2.1 3 2) ∧ ((¬ (h.2.1 3 1) = (h.2.1 3 2) → Q (some (.int (zI 0))) h) ∧ ((h.2.1 3 1) = (h.2.1 3 2) → Q (some (.int (zI 1))) h))) :
    fx_Mt l M_BR_atEnd (0, 0) [.ref 3] h Q := by
  refine fx_entry (ls := [some (.ref 3)]) (by decide) (Nat.le_of_ble_eq_true rfl) rfl ?_
  refine fx_aload_n (i := 0) d_BR_atEnd_0 rfl rfl ?_
  refine fx_getI d_BR_atEnd_1 lk_BR_13 (at_3 (h := _) hS) rfl ?_
  refine fx_aload_n (i := 0) d_BR_atEnd_4 rfl rfl ?_
  refine fx_getI d_BR_atEnd_5 lk_BR_17 (at_3 (h := _) hS) rfl ?_
  obtain ⟨hz1, H⟩ := H
  obtain ⟨hz2, H⟩ := H
  refine fx_icmp_ne (t := 15) (n := 11) d_BR_atEnd_8 hz1 hz2 (fun z3 => ?_) (fun z3 => ?_)
  · replace H := H.1 z3
    refine fx_iconst d_BR_atEnd_15 ?_
    exact fx_end (some (.int (zI 0))) ⟨⟨_, rfl, rfl⟩, d_BR_atEnd_16⟩ (Nat.le_refl _) (Nat.le_refl _) rfl H
  · replace H := H.2 z3
    refine fx_iconst d_BR_atEnd_11 ?_
    refine fx_goto (n := 16) d_BR_atEnd_12 ?_
    exact fx_end (some (.int (zI 1))) ⟨⟨_, rfl, rfl⟩, d_BR_atEnd_16⟩ (Nat.le_refl _) (Nat.le_refl _) rfl H

set_option maxRecDepth 100000 in
set_option maxHeartbeats 4000000 in
theorem e_BR_onlyFillLeft {l : Launch} {Q : Option Value → fx_H → Prop} {h : fx_H}    {a : Nat → Nat} {pp dd : Nat} (hS : h.1 = fx_S0 a pp dd) 
    (H : zR ((h.2.1 3 2) - (h.2.1 3 1)) ∧ ((8 ≤ ((h.2.1 3 2) - (h.2.1 3 1)) → Q (some (.int (zI 0))) h) ∧ (¬ (8 ≤ ((h.2.1 3 2) - (h.2.1 3 1))) → fx_Mt l M_BR_number (0, 0) [.ref 3, .int (zI ((h.2.1 3 2) - (h.2.1 3 1)))] h (fun v h3 => ∃ r5 : Int, v = some (.int (zI r5)) ∧ h3.1 = h.1 ∧ zR r5 ∧ ((¬ r5 = 0 → Q (some (.int (zI 0))) h3) ∧ (r5 = 0 → Q (some (.int (zI 1))) h3)))))) :
    fx_Mt l M_BR_onlyFillLeft (0, 0) [.ref 3] h Q := by
  refine fx_entry (ls := [some (.ref 3), none]) (by decide) (Nat.le_of_ble_eq_true rfl) rfl ?_
  refine fx_aload_n (i := 0) d_BR_onlyFillLeft_0 rfl rfl ?_
  refine fx_getI d_BR_onlyFillLeft_1 lk_BR_17 (at_3 (h := _) hS) rfl ?_
  refine fx_aload_n (i := 0) d_BR_onlyFillLeft_4 rfl rfl ?_
  refine fx_getI d_BR_onlyFillLeft_5 lk_BR_13 (at_3 (h := _) hS) rfl ?_
  refine fx_isub d_BR_onlyFillLeft_8 ?_
  refine fx_istore_n (i := 1) (ls2 := [some (.ref 3), some (.int (zI ((h.2.1 3 2) - (h.2.1 3 1))))]) d_BR_onlyFillLeft_9 rfl (by decide) rfl ?_
  refine fx_iload_n (i := 1) d_BR_onlyFillLeft_10 rfl rfl ?_
  refine fx_bipush (v := 8) d_BR_onlyFillLeft_11 rfl ?_
  obtain ⟨hz1, H⟩ := H
  refine fx_icmp_ge (t := 28) (n := 16) d_BR_onlyFillLeft_13 hz1 (show zR 8 by decide) (fun z2 => ?_) (fun z2 => ?_)
  · replace H := H.1 z2
    refine fx_iconst d_BR_onlyFillLeft_28 ?_
    exact fx_end (some (.int (zI 0))) ⟨⟨_, rfl, rfl⟩, d_BR_onlyFillLeft_29⟩ (Nat.le_refl _) (Nat.le_refl _) rfl H
  · replace H := H.2 z2
    refine fx_aload_n (i := 0) d_BR_onlyFillLeft_16 rfl rfl ?_
    refine fx_iload_n (i := 1) d_BR_onlyFillLeft_17 rfl rfl ?_
    refine fx_callV (M' := M_BR_number) (B' := (0, 0)) (vs := [.int (zI ((h.2.1 3 2) - (h.2.1 3 1)))]) (rest := []) (c1 := 0) (s1 := 0) (n := 21) d_BR_onlyFillLeft_18 ca_BR_onlyFillLeft_30 (at_3 (h := _) hS) rfl rfl rfl ⟨by decide, by decide⟩ (Nat.le_of_ble_eq_true rfl) (Or.inl rfl) (fx_Mt.mono H fun v h3 hv => ?_)
    obtain ⟨r5, rfl, e4, H⟩ := hv
    have hS3 := e4.trans hS
    show fx_V l M_BR_onlyFillLeft (0, 0) Q 0 0 21 [some (.ref 3), some (.int (zI ((h.2.1 3 2) - (h.2.1 3 1))))] [.int (zI r5)] h3
    obtain ⟨hz6, H⟩ := H
    refine fx_if_ne (t := 28) (n := 24) d_BR_onlyFillLeft_21 hz6 (fun z7 => ?_) (fun z7 => ?_)
    · replace H := H.1 z7
      refine fx_iconst d_BR_onlyFillLeft_28 ?_
      exact fx_end (some (.int (zI 0))) ⟨⟨_, rfl, rfl⟩, d_BR_onlyFillLeft_29⟩ (Nat.le_refl _) (Nat.le_refl _) rfl H
    · replace H := H.2 z7
      refine fx_iconst d_BR_onlyFillLeft_24 ?_
      refine fx_goto (n := 29) d_BR_onlyFillLeft_25 ?_
      exact fx_end (some (.int (zI 1))) ⟨⟨_, rfl, rfl⟩, d_BR_onlyFillLeft_29⟩ (Nat.le_refl _) (Nat.le_refl _) rfl H

set_option maxRecDepth 100000 in
set_option maxHeartbeats 4000000 in
theorem e_CT_next {l : Launch} {Q : Option Value → fx_H → Prop} {h : fx_H} {t : Nat}  {ht_a : Nat} {hw_a : Nat} {a : Nat → Nat} {pp dd : Nat} (hS : h.1 = fx_S0 a pp dd) (ht : h.1[t]? = some (ht_a, .inl (4, [some (t + 1)]))) (hw : h.1[(t + 1)]? = some (hw_a, .inr (0, 120)))
    (H : (fx_V l M_CT_next (0, 0) Q 0 0 4 [some (.ref t), some (.ref 3), some (.int (zI 0)), some (.int (zI 0)), none, none] [] h)) :
    fx_Mt l M_CT_next (0, 0) [.ref t, .ref 3] h Q := by
  refine fx_entry (ls := [some (.ref t), some (.ref 3), none, none, none, none]) (by decide) (Nat.le_of_ble_eq_true rfl) rfl ?_
  refine fx_iconst d_CT_next_0 ?_
  refine fx_istore_n (i := 2) (ls2 := [some (.ref t), some (.ref 3), some (.int (zI 0)), none, none, none]) d_CT_next_1 rfl (by decide) rfl ?_
  refine fx_iconst d_CT_next_2 ?_
  refine fx_istore_n (i := 3) (ls2 := [some (.ref t), some (.ref 3), some (.int (zI 0)), some (.int (zI 0)), none, none]) d_CT_next_3 rfl (by decide) rfl ?_
  exact H

set_option maxRecDepth 100000 in
set_option maxHeartbeats 4000000 in
theorem w_CT_next_4 {l : Launch} {Q : Option Value → fx_H → Prop} {h : fx_H} {t : Nat} {x2 : Int} {x3 : Int} {ht_a : Nat} {hw_a : Nat} {a : Nat → Nat} {pp dd : Nat} (hS : h.1 = fx_S0 a pp dd) (ht : h.1[t]? = some (ht_a, .inl (4, [some (t + 1)]))) (hw : h.1[(t + 1)]? = some (hw_a, .inr (0, 120)))
    (H : zR x3 ∧ ((12 ≤ x3 → Q (some (.int (zI (-1)))) h) ∧ (¬ (12 ≤ x3) → fx_Mt l M_BR_bit (0, 0) [.ref 3] h (fun v h3 => ∃ r5 : Int, v = some (.int (zI r5)) ∧ h3.1 = h.1 ∧ zR r5 ∧ ((0 ≤ r5 → 0 ≤ ((2 * x2) + r5) ∧ ((2 * x2) + r5) < 120 ∧ zR (h3.2.2.1 ((t + 1)) (((2 * x2) + r5).toNat)) ∧ ((0 < (h3.2.2.1 ((t + 1)) (((2 * x2) + r5).toNat)) → (fx_V l M_CT_next (0, 0) Q 0 0 4 [some (.ref t), some (.ref 3), some (.int (zI (h3.2.2.1 ((t + 1)) (((2 * x2) + r5).toNat)))), some (.int (zI (x3 + 1))), none, none] [] h3)) ∧ (¬ (0 < (h3.2.2.1 ((t + 1)) (((2 * x2) + r5).toNat))) → ((0 ≤ (h3.2.2.1 ((t + 1)) (((2 * x2) + r5).toNat)) → Q (some (.int (zI (-1)))) h3) ∧ (¬ (0 ≤ (h3.2.2.1 ((t + 1)) (((2 * x2) + r5).toNat))) → Q (some (.int (zI ((-1) - (h3.2.2.1 ((t + 1)) (((2 * x2) + r5).toNat)))))) h3))))) ∧ (¬ (0 ≤ r5) → Q (some (.int (zI (-1)))) h3)))))) :
    fx_V l M_CT_next (0, 0) Q 0 0 4 [some (.ref t), some (.ref 3), some (.int (zI x2)), some (.int (zI x3)), none, none] [] h := by
  refine fx_iload_n (i := 3) d_CT_next_4 rfl rfl ?_
  refine fx_bipush (v := 12) d_CT_next_5 rfl ?_
  obtain ⟨hz1, H⟩ := H
  refine fx_icmp_ge (t := 66) (n := 10) d_CT_next_7 hz1 (show zR 12 by decide) (fun z2 => ?_) (fun z2 => ?_)
  · replace H := H.1 z2
    refine fx_iconst d_CT_next_66 ?_
    exact fx_end (some (.int (zI (-1)))) ⟨⟨_, rfl, rfl⟩, d_CT_next_67⟩ (Nat.le_refl _) (Nat.le_refl _) rfl H
  · replace H := H.2 z2
    refine fx_aload_n (i := 1) d_CT_next_10 rfl rfl ?_
    refine fx_callV (M' := M_BR_bit) (B' := (0, 0)) (vs := []) (rest := []) (c1 := 0) (s1 := 0) (n := 14) d_CT_next_11 ca_CT_next_25 (at_3 (h := _) hS) rfl rfl rfl ⟨by decide, by decide⟩ (Nat.le_of_ble_eq_true rfl) (Or.inl rfl) (fx_Mt.mono H fun v h3 hv => ?_)
    obtain ⟨r5, rfl, e4, H⟩ := hv
    have hS3 := e4.trans hS
    have ht3 : h3.1[t]? = some (ht_a, .inl (4, [some (t + 1)])) := by rw [e4]; exact ht
    have hw3 : h3.1[(t + 1)]? = some (hw_a, .inr (0, 120)) := by rw [e4]; exact hw
    show fx_V l M_CT_next (0, 0) Q 0 0 14 [some (.ref t), some (.ref 3), some (.int (zI x2)), some (.int (zI x3)), none, none] [.int (zI r5)] h3
    refine fx_istore (ls2 := [some (.ref t), some (.ref 3), some (.int (zI x2)), some (.int (zI x3)), some (.int (zI r5)), none]) d_CT_next_14 (by decide) rfl ?_
    refine fx_iload d_CT_next_16 rfl ?_
    obtain ⟨hz6, H⟩ := H
    refine fx_if_ge (t := 25) (n := 21) d_CT_next_18 hz6 (fun z7 => ?_) (fun z7 => ?_)
    · replace H := H.1 z7
      refine fx_aload_n (i := 0) d_CT_next_25 rfl rfl ?_
      refine fx_getR (q := (t + 1)) d_CT_next_26 lk_CT_9 ht3 rfl rfl ?_
      refine fx_iconst d_CT_next_29 ?_
      refine fx_iload_n (i := 2) d_CT_next_30 rfl rfl ?_
      refine fx_imul d_CT_next_31 ?_
      refine fx_iload d_CT_next_32 rfl ?_
      refine fx_iadd d_CT_next_34 ?_
      obtain ⟨hn8, H⟩ := H
      obtain ⟨hn9, H⟩ := H
      refine fx_iald d_CT_next_35 hw3 hn8 hn9 (by decide) ?_
      refine fx_istore (ls2 := [some (.ref t), some (.ref 3), some (.int (zI x2)), some (.int (zI x3)), some (.int (zI r5)), some (.int (zI (h3.2.2.1 ((t + 1)) (((2 * x2) + r5).toNat))))]) d_CT_next_36 (by decide) rfl ?_
      refine fx_iload d_CT_next_38 rfl ?_
      obtain ⟨hz10, H⟩ := H
      refine fx_if_gt (t := 57) (n := 43) d_CT_next_40 hz10 (fun z11 => ?_) (fun z11 => ?_)
      · replace H := H.1 z11
        refine fx_iload d_CT_next_57 rfl ?_
        refine fx_istore_n (i := 2) (ls2 := [some (.ref t), some (.ref 3), some (.int (zI (h3.2.2.1 ((t + 1)) (((2 * x2) + r5).toNat)))), some (.int (zI x3)), some (.int (zI r5)), some (.int (zI (h3.2.2.1 ((t + 1)) (((2 * x2) + r5).toNat))))]) d_CT_next_59 rfl (by decide) rfl ?_
        refine fx_iinc (v := x3 + 1) (ls2 := [some (.ref t), some (.ref 3), some (.int (zI (h3.2.2.1 ((t + 1)) (((2 * x2) + r5).toNat)))), some (.int (zI (x3 + 1))), some (.int (zI r5)), some (.int (zI (h3.2.2.1 ((t + 1)) (((2 * x2) + r5).toNat))))]) d_CT_next_60 rfl rfl (by decide) rfl ?_
        refine fx_goto (n := 4) d_CT_next_63 ?_
        exact fx_fewer [some (.ref t), some (.ref 3), some (.int (zI (h3.2.2.1 ((t + 1)) (((2 * x2) + r5).toNat)))), some (.int (zI (x3 + 1))), none, none] ⟨rfl, rfl, rfl, rfl, trivial⟩ H
      · replace H := H.2 z11
        refine fx_iload d_CT_next_43 rfl ?_
        refine fx_if_ge (t := 55) (n := 48) d_CT_next_45 hz10 (fun z12 => ?_) (fun z12 => ?_)
        · replace H := H.1 z12
          refine fx_iconst d_CT_next_55 ?_
          exact fx_end (some (.int (zI (-1)))) ⟨⟨_, rfl, rfl⟩, d_CT_next_56⟩ (Nat.le_refl _) (Nat.le_refl _) rfl H
        · replace H := H.2 z12
          refine fx_iconst d_CT_next_48 ?_
          refine fx_iload d_CT_next_49 rfl ?_
          refine fx_isub d_CT_next_51 ?_
          refine fx_goto (n := 56) d_CT_next_52 ?_
          exact fx_end (some (.int (zI ((-1) - (h3.2.2.1 ((t + 1)) (((2 * x2) + r5).toNat)))))) ⟨⟨_, rfl, rfl⟩, d_CT_next_56⟩ (Nat.le_refl _) (Nat.le_refl _) rfl H
    · replace H := H.2 z7
      refine fx_iconst d_CT_next_21 ?_
      refine fx_goto (n := 36) d_CT_next_22 ?_
      refine fx_istore (ls2 := [some (.ref t), some (.ref 3), some (.int (zI x2)), some (.int (zI x3)), some (.int (zI r5)), some (.int (zI 0))]) d_CT_next_36 (by decide) rfl ?_
      refine fx_iload d_CT_next_38 rfl ?_
      refine fx_if_gt (t := 57) (n := 43) d_CT_next_40 (show zR 0 by decide) (fun z => absurd (show (0 : Int) < (0 : Int) from z) (by decide)) (fun z => ?_)
      refine fx_iload d_CT_next_43 rfl ?_
      refine fx_if_ge (t := 55) (n := 48) d_CT_next_45 (show zR 0 by decide) (fun z => ?_) (fun z => absurd (show ¬ ((0 : Int) ≤ (0 : Int)) from z) (by decide))
      refine fx_iconst d_CT_next_55 ?_
      exact fx_end (some (.int (zI (-1)))) ⟨⟨_, rfl, rfl⟩, d_CT_next_56⟩ (Nat.le_refl _) (Nat.le_refl _) rfl H

