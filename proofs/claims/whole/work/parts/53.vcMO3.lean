/-! what is owed of the numbers, by program (wip/printvc.py) -/
set_option maxRecDepth 100000 in
set_option maxHeartbeats 4000000 in
theorem e_MO_inBits {l : Launch} {Q : Option Value → fx_H → Prop} {h : fx_H}  {x : Int}  {a : Nat → Nat} {pp dd : Nat} (hS : h.1 = fx_S0 a pp dd) 
    (H : (fx_V l M_MO_inBits (0, 0) Q 0 0 4 [some (.ref 31), some (.int (zI x)), some (.int (zI 0)), some (.int (zI 0))] [] h)) :
    fx_Mt l M_MO_inBits (0, 0) [.ref 31, .int (zI x)] h Q := by
  refine fx_entry (ls := [some (.ref 31), some (.int (zI x)), none, none]) (by decide) (Nat.le_of_ble_eq_true rfl) rfl ?_
  refine fx_iconst d_MO_inBits_0 ?_
  refine fx_istore_n (i := 2) (ls2 := [some (.ref 31), some (.int (zI x)), some (.int (zI 0)), none]) d_MO_inBits_1 rfl (by decide) rfl ?_
  refine fx_iconst d_MO_inBits_2 ?_
  refine fx_istore_n (i := 3) (ls2 := [some (.ref 31), some (.int (zI x)), some (.int (zI 0)), some (.int (zI 0))]) d_MO_inBits_3 rfl (by decide) rfl ?_
  exact H

set_option maxRecDepth 100000 in
set_option maxHeartbeats 4000000 in
theorem w_MO_inBits_4 {l : Launch} {Q : Option Value → fx_H → Prop} {h : fx_H}  {x1 : Int} {x2 : Int} {x3 : Int}  {a : Nat → Nat} {pp dd : Nat} (hS : h.1 = fx_S0 a pp dd) 
    (H : zR x3 ∧ zR x1 ∧ ((x1 ≤ x3 → Q (some (.int (zI x2))) h) ∧ (¬ (x1 ≤ x3) → zR (h.2.1 31 22) ∧ ((¬ (h.2.1 31 22) = 0 → Q (some (.int (zI x2))) h) ∧ ((h.2.1 31 22) = 0 → fx_Mt l M_MO_inBit (0, 0) [.ref 31] h (fun v h6 => ∃ r8 : Int, v = some (.int (zI r8)) ∧ h6.1 = h.1 ∧ (fx_V l M_MO_inBits (0, 0) Q 0 0 4 [some (.ref 31), some (.int (zI x1)), some (.int (zI ((2 * x2) + r8))), some (.int (zI (x3 + 1)))] [] h6))))))) :
    fx_V l M_MO_inBits (0, 0) Q 0 0 4 [some (.ref 31), some (.int (zI x1)), some (.int (zI x2)), some (.int (zI x3))] [] h := by
  refine fx_iload_n (i := 3) d_MO_inBits_4 rfl rfl ?_
  refine fx_iload_n (i := 1) d_MO_inBits_5 rfl rfl ?_
  obtain ⟨hz1, H⟩ := H
  obtain ⟨hz2, H⟩ := H
  refine fx_icmp_ge (t := 31) (n := 9) d_MO_inBits_6 hz1 hz2 (fun z3 => ?_) (fun z3 => ?_)
  · replace H := H.1 z3
    refine fx_iload_n (i := 2) d_MO_inBits_31 rfl rfl ?_
    exact fx_end (some (.int (zI x2))) ⟨⟨_, rfl, rfl⟩, d_MO_inBits_32⟩ (Nat.le_refl _) (Nat.le_refl _) rfl H
  · replace H := H.2 z3
    refine fx_aload_n (i := 0) d_MO_inBits_9 rfl rfl ?_
    refine fx_getI d_MO_inBits_10 lk_MO_264 (at_31 (h := _) hS) rfl ?_
    obtain ⟨hz4, H⟩ := H
    refine fx_if_ne (t := 31) (n := 16) d_MO_inBits_13 hz4 (fun z5 => ?_) (fun z5 => ?_)
    · replace H := H.1 z5
      refine fx_iload_n (i := 2) d_MO_inBits_31 rfl rfl ?_
      exact fx_end (some (.int (zI x2))) ⟨⟨_, rfl, rfl⟩, d_MO_inBits_32⟩ (Nat.le_refl _) (Nat.le_refl _) rfl H
    · replace H := H.2 z5
      refine fx_iconst d_MO_inBits_16 ?_
      refine fx_iload_n (i := 2) d_MO_inBits_17 rfl rfl ?_
      refine fx_imul d_MO_inBits_18 ?_
      refine fx_aload_n (i := 0) d_MO_inBits_19 rfl rfl ?_
      refine fx_callV (M' := M_MO_inBit) (B' := (0, 0)) (vs := []) (rest := [.int (zI (2 * x2))]) (c1 := 0) (s1 := 0) (n := 23) d_MO_inBits_20 ca_MO_inBits_277 (at_31 (h := _) hS) rfl rfl rfl ⟨by decide, by decide⟩ (Nat.le_of_ble_eq_true rfl) (Or.inl rfl) (fx_Mt.mono H fun v h6 hv => ?_)
      obtain ⟨r8, rfl, e7, H⟩ := hv
      have hS6 := e7.trans hS
      show fx_V l M_MO_inBits (0, 0) Q 0 0 23 [some (.ref 31), some (.int (zI x1)), some (.int (zI x2)), some (.int (zI x3))] [.int (zI r8), .int (zI (2 * x2))] h6
      refine fx_iadd d_MO_inBits_23 ?_
      refine fx_istore_n (i := 2) (ls2 := [some (.ref 31), some (.int (zI x1)), some (.int (zI ((2 * x2) + r8))), some (.int (zI x3))]) d_MO_inBits_24 rfl (by decide) rfl ?_
      refine fx_iinc (v := x3 + 1) (ls2 := [some (.ref 31), some (.int (zI x1)), some (.int (zI ((2 * x2) + r8))), some (.int (zI (x3 + 1)))]) d_MO_inBits_25 rfl rfl (by decide) rfl ?_
      refine fx_goto (n := 4) d_MO_inBits_28 ?_
      exact H

set_option maxRecDepth 100000 in
set_option maxHeartbeats 4000000 in
theorem e_MO_inBit {l : Launch} {Q : Option Value → fx_H → Prop} {h : fx_H}    {a : Nat → Nat} {pp dd : Nat} (hS : h.1 = fx_S0 a pp dd) 
    (H : zR (h.2.1 31 20) ∧ zR (h.2.1 31 21) ∧ (((h.2.1 31 21) ≤ (h.2.1 31 20) → fx_Mt l M_MO_need (0, 0) [.ref 31, .int (zI 0)] h (fun v h4 => ∃ r6 : Int, v = some (.int (zI r6)) ∧ h4.1 = h.1 ∧ zR r6 ∧ ((¬ r6 = 0 → 0 ≤ (h4.2.1 31 20) ∧ zR (h4.2.1 31 20) ∧ 0 ≤ ((h4.2.1 31 20) / 8) ∧ ((h4.2.1 31 20) / 8) < 2000 ∧ 0 ≤ (h4.2.1 31 20) ∧ (0 ≤ (7 - ((h4.2.1 31 20) % 8)) ∧ (7 - ((h4.2.1 31 20) % 8)) < 32) ∧ zR (h4.2.2.1 33 (((h4.2.1 31 20) / 8).toNat)) ∧ Q (some (.int (zI (((h4.2.2.1 33 (((h4.2.1 31 20) / 8).toNat)) / 2 ^ (7 - ((h4.2.1 31 20) % 8)).toNat) % 2)))) (fx_uF h4 31 20 ((h4.2.1 31 20) + 1))) ∧ (r6 = 0 → Q (some (.int (zI 0))) h4)))) ∧ (¬ ((h.2.1 31 21) ≤ (h.2.1 31 20)) → fx_Mt l M_MO_need (0, 0) [.ref 31, .int (zI 1)] h (fun v h17 => ∃ r19 : Int, v = some (.int (zI r19)) ∧ h17.1 = h.1 ∧ zR r19 ∧ ((¬ r19 = 0 → 0 ≤ (h17.2.1 31 20) ∧ zR (h17.2.1 31 20) ∧ 0 ≤ ((h17.2.1 31 20) / 8) ∧ ((h17.2.1 31 20) / 8) < 2000 ∧ 0 ≤ (h17.2.1 31 20) ∧ (0 ≤ (7 - ((h17.2.1 31 20) % 8)) ∧ (7 - ((h17.2.1 31 20) % 8)) < 32) ∧ zR (h17.2.2.1 33 (((h17.2.1 31 20) / 8).toNat)) ∧ Q (some (.int (zI (((h17.2.2.1 33 (((h17.2.1 31 20) / 8).toNat)) / 2 ^ (7 - ((h17.2.1 31 20) % 8)).toNat) % 2)))) (fx_uF h17 31 20 ((h17.2.1 31 20) + 1))) ∧ (r19 = 0 → Q (some (.int (zI 0))) h17)))))) :
    fx_Mt l M_MO_inBit (0, 0) [.ref 31] h Q := by
  refine fx_entry (ls := [some (.ref 31), none]) (by decide) (Nat.le_of_ble_eq_true rfl) rfl ?_
  refine fx_aload_n (i := 0) d_MO_inBit_0 rfl rfl ?_
  refine fx_aload_n (i := 0) d_MO_inBit_1 rfl rfl ?_
  refine fx_getI d_MO_inBit_2 lk_MO_267 (at_31 (h := _) hS) rfl ?_
  refine fx_aload_n (i := 0) d_MO_inBit_5 rfl rfl ?_
  refine fx_getI d_MO_inBit_6 lk_MO_270 (at_31 (h := _) hS) rfl ?_
  obtain ⟨hz1, H⟩ := H
  obtain ⟨hz2, H⟩ := H
  refine fx_icmp_ge (t := 16) (n := 12) d_MO_inBit_9 hz1 hz2 (fun z3 => ?_) (fun z3 => ?_)
  · replace H := H.1 z3
    refine fx_iconst d_MO_inBit_16 ?_
    refine fx_callV (M' := M_MO_need) (B' := (0, 0)) (vs := [.int (zI 0)]) (rest := []) (c1 := 0) (s1 := 0) (n := 20) d_MO_inBit_17 ca_MO_inBit_273 (at_31 (h := _) hS) rfl rfl rfl ⟨by decide, by decide⟩ (Nat.le_of_ble_eq_true rfl) (Or.inl rfl) (fx_Mt.mono H fun v h4 hv => ?_)
    obtain ⟨r6, rfl, e5, H⟩ := hv
    have hS4 := e5.trans hS
    show fx_V l M_MO_inBit (0, 0) Q 0 0 20 [some (.ref 31), none] [.int (zI r6)] h4
    obtain ⟨hz7, H⟩ := H
    refine fx_if_ne (t := 25) (n := 23) d_MO_inBit_20 hz7 (fun z8 => ?_) (fun z8 => ?_)
    · replace H := H.1 z8
      refine fx_aload_n (i := 0) d_MO_inBit_25 rfl rfl ?_
      refine fx_getR (q := 33) d_MO_inBit_26 lk_MO_20 (at_31 (h := _) hS4) rfl rfl ?_
      refine fx_aload_n (i := 0) d_MO_inBit_29 rfl rfl ?_
      refine fx_getI d_MO_inBit_30 lk_MO_267 (at_31 (h := _) hS4) rfl ?_
      refine fx_bipush (v := 8) d_MO_inBit_33 rfl ?_
      obtain ⟨hn9, H⟩ := H
      obtain ⟨hz10, H⟩ := H
      refine fx_idiv d_MO_inBit_35 hn9 hz10 (show (0 : Int) < 8 by decide) (show zR 8 by decide) ?_
      obtain ⟨hn11, H⟩ := H
      obtain ⟨hn12, H⟩ := H
      refine fx_iald d_MO_inBit_36 (at_33 (h := _) hS4) hn11 hn12 (by decide) ?_
      refine fx_bipush (v := 7) d_MO_inBit_37 rfl ?_
      refine fx_aload_n (i := 0) d_MO_inBit_39 rfl rfl ?_
      refine fx_getI d_MO_inBit_40 lk_MO_267 (at_31 (h := _) hS4) rfl ?_
      refine fx_bipush (v := 8) d_MO_inBit_43 rfl ?_
      obtain ⟨hn13, H⟩ := H
      refine fx_irem d_MO_inBit_45 hn13 hz10 (show (0 : Int) < 8 by decide) (show zR 8 by decide) ?_
      refine fx_isub d_MO_inBit_46 ?_
      obtain ⟨hn14, H⟩ := H
      have ez15 : (((7 - ((h4.2.1 31 20) % 8)).toNat : Nat) : Int) = 7 - ((h4.2.1 31 20) % 8) := Int.toNat_of_nonneg hn14.1
      refine fx_eqv (st2 := [(.int (zI (((7 - ((h4.2.1 31 20) % 8)).toNat : Nat) : Int))), .int (zI (h4.2.2.1 33 (((h4.2.1 31 20) / 8).toNat)))]) (by rw [ez15]) ?_
      obtain ⟨hz16, H⟩ := H
      refine fx_ishr (j := (7 - ((h4.2.1 31 20) % 8)).toNat) d_MO_inBit_47 hz16 (by omega) ?_
      refine fx_iconst d_MO_inBit_48 ?_
      refine fx_and1 d_MO_inBit_49 ?_
      refine fx_istore_n (i := 1) (ls2 := [some (.ref 31), some (.int (zI (((h4.2.2.1 33 (((h4.2.1 31 20) / 8).toNat)) / 2 ^ (7 - ((h4.2.1 31 20) % 8)).toNat) % 2)))]) d_MO_inBit_50 rfl (by decide) rfl ?_
      refine fx_aload_n (i := 0) d_MO_inBit_51 rfl rfl ?_
      refine fx_dup d_MO_inBit_52 rfl ?_
      refine fx_getI d_MO_inBit_53 lk_MO_267 (at_31 (h := _) hS4) rfl ?_
      refine fx_iconst d_MO_inBit_56 ?_
      refine fx_iadd d_MO_inBit_57 ?_
      refine fx_putI d_MO_inBit_58 lk_MO_267 (at_31 (h := _) hS4) rfl rfl rfl ?_
      refine fx_iload_n (i := 1) d_MO_inBit_61 rfl rfl ?_
      exact fx_end (some (.int (zI (((h4.2.2.1 33 (((h4.2.1 31 20) / 8).toNat)) / 2 ^ (7 - ((h4.2.1 31 20) % 8)).toNat) % 2)))) ⟨⟨_, rfl, rfl⟩, d_MO_inBit_62⟩ (Nat.le_refl _) (Nat.le_refl _) rfl H
    · replace H := H.2 z8
      refine fx_iconst d_MO_inBit_23 ?_
      exact fx_end (some (.int (zI 0))) ⟨⟨_, rfl, rfl⟩, d_MO_inBit_24⟩ (Nat.le_refl _) (Nat.le_refl _) rfl H
  · replace H := H.2 z3
    refine fx_iconst d_MO_inBit_12 ?_
    refine fx_goto (n := 17) d_MO_inBit_13 ?_
    refine fx_callV (M' := M_MO_need) (B' := (0, 0)) (vs := [.int (zI 1)]) (rest := []) (c1 := 0) (s1 := 0) (n := 20) d_MO_inBit_17 ca_MO_inBit_273 (at_31 (h := _) hS) rfl rfl rfl ⟨by decide, by decide⟩ (Nat.le_of_ble_eq_true rfl) (Or.inl rfl) (fx_Mt.mono H fun v h17 hv => ?_)
    obtain ⟨r19, rfl, e18, H⟩ := hv
    have hS17 := e18.trans hS
    show fx_V l M_MO_inBit (0, 0) Q 0 0 20 [some (.ref 31), none] [.int (zI r19)] h17
    obtain ⟨hz20, H⟩ := H
    refine fx_if_ne (t := 25) (n := 23) d_MO_inBit_20 hz20 (fun z21 => ?_) (fun z21 => ?_)
    · replace H := H.1 z21
      refine fx_aload_n (i := 0) d_MO_inBit_25 rfl rfl ?_
      refine fx_getR (q := 33) d_MO_inBit_26 lk_MO_20 (at_31 (h := _) hS17) rfl rfl ?_
      refine fx_aload_n (i := 0) d_MO_inBit_29 rfl rfl ?_
      refine fx_getI d_MO_inBit_30 lk_MO_267 (at_31 (h := _) hS17) rfl ?_
      refine fx_bipush (v := 8) d_MO_inBit_33 rfl ?_
      obtain ⟨hn22, H⟩ := H
      obtain ⟨hz23, H⟩ := H
      refine fx_idiv d_MO_inBit_35 hn22 hz23 (show (0 : Int) < 8 by decide) (show zR 8 by decide) ?_
      obtain ⟨hn24, H⟩ := H
      obtain ⟨hn25, H⟩ := H
      refine fx_iald d_MO_inBit_36 (at_33 (h := _) hS17) hn24 hn25 (by decide) ?_
      refine fx_bipush (v := 7) d_MO_inBit_37 rfl ?_
      refine fx_aload_n (i := 0) d_MO_inBit_39 rfl rfl ?_
      refine fx_getI d_MO_inBit_40 lk_MO_267 (at_31 (h := _) hS17) rfl ?_
      refine fx_bipush (v := 8) d_MO_inBit_43 rfl ?_
      obtain ⟨hn26, H⟩ := H
      refine fx_irem d_MO_inBit_45 hn26 hz23 (show (0 : Int) < 8 by decide) (show zR 8 by decide) ?_
      refine fx_isub d_MO_inBit_46 ?_
      obtain ⟨hn27, H⟩ := H
      have ez28 : (((7 - ((h17.2.1 31 20) % 8)).toNat : Nat) : Int) = 7 - ((h17.2.1 31 20) % 8) := Int.toNat_of_nonneg hn27.1
      refine fx_eqv (st2 := [(.int (zI (((7 - ((h17.2.1 31 20) % 8)).toNat : Nat) : Int))), .int (zI (h17.2.2.1 33 (((h17.2.1 31 20) / 8).toNat)))]) (by rw [ez28]) ?_
      obtain ⟨hz29, H⟩ := H
      refine fx_ishr (j := (7 - ((h17.2.1 31 20) % 8)).toNat) d_MO_inBit_47 hz29 (by omega) ?_
      refine fx_iconst d_MO_inBit_48 ?_
      refine fx_and1 d_MO_inBit_49 ?_
      refine fx_istore_n (i := 1) (ls2 := [some (.ref 31), some (.int (zI (((h17.2.2.1 33 (((h17.2.1 31 20) / 8).toNat)) / 2 ^ (7 - ((h17.2.1 31 20) % 8)).toNat) % 2)))]) d_MO_inBit_50 rfl (by decide) rfl ?_
      refine fx_aload_n (i := 0) d_MO_inBit_51 rfl rfl ?_
      refine fx_dup d_MO_inBit_52 rfl ?_
      refine fx_getI d_MO_inBit_53 lk_MO_267 (at_31 (h := _) hS17) rfl ?_
      refine fx_iconst d_MO_inBit_56 ?_
      refine fx_iadd d_MO_inBit_57 ?_
      refine fx_putI d_MO_inBit_58 lk_MO_267 (at_31 (h := _) hS17) rfl rfl rfl ?_
      refine fx_iload_n (i := 1) d_MO_inBit_61 rfl rfl ?_
      exact fx_end (some (.int (zI (((h17.2.2.1 33 (((h17.2.1 31 20) / 8).toNat)) / 2 ^ (7 - ((h17.2.1 31 20) % 8)).toNat) % 2)))) ⟨⟨_, rfl, rfl⟩, d_MO_inBit_62⟩ (Nat.le_refl _) (Nat.le_refl _) rfl H
    · replace H := H.2 z21
      refine fx_iconst d_MO_inBit_23 ?_
      exact fx_end (some (.int (zI 0))) ⟨⟨_, rfl, rfl⟩, d_MO_inBit_24⟩ (Nat.le_refl _) (Nat.le_refl _) rfl H

set_option maxRecDepth 100000 in
set_option maxHeartbeats 4000000 in
theorem e_MO_need {l : Launch} {Q : Option Value → fx_H → Prop} {h : fx_H}  {x : Int}  {a : Nat → Nat} {pp dd : Nat} (hS : h.1 = fx_S0 a pp dd) 
    (H : zR (h.2.1 31 22) ∧ ((¬ (h.2.1 31 22) = 0 → (x = 0 ∨ x = 1) ∧ Q (some (.int (zI x))) (fx_uF h 31 22 1)) ∧ ((h.2.1 31 22) = 0 → zR x ∧ ((¬ x = 0 → (x = 0 ∨ x = 1) ∧ Q (some (.int (zI x))) (fx_uF h 31 22 0)) ∧ (x = 0 → (x = 0 ∨ x = 1) ∧ Q (some (.int (zI x))) (fx_uF h 31 22 1)))))) :
    fx_Mt l M_MO_need (0, 0) [.ref 31, .int (zI x)] h Q := by
  refine fx_entry (ls := [some (.ref 31), some (.int (zI x))]) (by decide) (Nat.le_of_ble_eq_true rfl) rfl ?_
  refine fx_aload_n (i := 0) d_MO_need_0 rfl rfl ?_
  refine fx_aload_n (i := 0) d_MO_need_1 rfl rfl ?_
  refine fx_getI d_MO_need_2 lk_MO_264 (at_31 (h := _) hS) rfl ?_
  obtain ⟨hz1, H⟩ := H
  refine fx_if_ne (t := 12) (n := 8) d_MO_need_5 hz1 (fun z2 => ?_) (fun z2 => ?_)
  · replace H := H.1 z2
    refine fx_iconst d_MO_need_12 ?_
    refine fx_goto (n := 17) d_MO_need_13 ?_
    refine fx_putI d_MO_need_17 lk_MO_264 (at_31 (h := _) hS) rfl rfl rfl ?_
    refine fx_iload_n (i := 1) d_MO_need_20 rfl rfl ?_
    obtain ⟨hn3, H⟩ := H
    exact fx_end (some (.int (zI x))) ⟨⟨_, rfl, fx_nb hn3⟩, d_MO_need_21⟩ (Nat.le_refl _) (Nat.le_refl _) rfl H
  · replace H := H.2 z2
    refine fx_iload_n (i := 1) d_MO_need_8 rfl rfl ?_
    obtain ⟨hz4, H⟩ := H
    refine fx_if_ne (t := 16) (n := 12) d_MO_need_9 hz4 (fun z5 => ?_) (fun z5 => ?_)
    · replace H := H.1 z5
      refine fx_iconst d_MO_need_16 ?_
      refine fx_putI d_MO_need_17 lk_MO_264 (at_31 (h := _) hS) rfl rfl rfl ?_
      refine fx_iload_n (i := 1) d_MO_need_20 rfl rfl ?_
      obtain ⟨hn6, H⟩ := H
      exact fx_end (some (.int (zI x))) ⟨⟨_, rfl, fx_nb hn6⟩, d_MO_need_21⟩ (Nat.le_refl _) (Nat.le_refl _) rfl H
    · replace H := H.2 z5
      refine fx_iconst d_MO_need_12 ?_
      refine fx_goto (n := 17) d_MO_need_13 ?_
      refine fx_putI d_MO_need_17 lk_MO_264 (at_31 (h := _) hS) rfl rfl rfl ?_
      refine fx_iload_n (i := 1) d_MO_need_20 rfl rfl ?_
      obtain ⟨hn7, H⟩ := H
      exact fx_end (some (.int (zI x))) ⟨⟨_, rfl, fx_nb hn7⟩, d_MO_need_21⟩ (Nat.le_refl _) (Nat.le_refl _) rfl H

set_option maxRecDepth 100000 in
set_option maxHeartbeats 4000000 in
theorem e_MO_inItself {l : Launch} {Q : Option Value → fx_H → Prop} {h : fx_H}    {a : Nat → Nat} {pp dd : Nat} (hS : h.1 = fx_S0 a pp dd) 
    (H : (fx_V l M_MO_inItself (0, 0) Q 0 0 4 [some (.ref 31), some (.int (zI 0)), some (.int (zI 0))] [] h)) :
    fx_Mt l M_MO_inItself (0, 0) [.ref 31] h Q := by
  refine fx_entry (ls := [some (.ref 31), none, none]) (by decide) (Nat.le_of_ble_eq_true rfl) rfl ?_
  refine fx_iconst d_MO_inItself_0 ?_
  refine fx_istore_n (i := 1) (ls2 := [some (.ref 31), some (.int (zI 0)), none]) d_MO_inItself_1 rfl (by decide) rfl ?_
  refine fx_iconst d_MO_inItself_2 ?_
  refine fx_istore_n (i := 2) (ls2 := [some (.ref 31), some (.int (zI 0)), some (.int (zI 0))]) d_MO_inItself_3 rfl (by decide) rfl ?_
  exact H

set_option maxRecDepth 100000 in
set_option maxHeartbeats 4000000 in
theorem w_MO_inItself_4 {l : Launch} {Q : Option Value → fx_H → Prop} {h : fx_H}  {x1 : Int} {x2 : Int}  {a : Nat → Nat} {pp dd : Nat} (hS : h.1 = fx_S0 a pp dd) 
    (H : zR x1 ∧ zR (h.2.1 31 15) ∧ (((h.2.1 31 15) ≤ x1 → Q none h) ∧ (¬ ((h.2.1 31 15) ≤ x1) → zR (h.2.1 31 22) ∧ ((¬ (h.2.1 31 22) = 0 → Q none h) ∧ ((h.2.1 31 22) = 0 → fx_Mt l M_MO_inRun (0, 0) [.ref 31, .int (zI x2)] h (fun v h6 => ∃ r8 : Int, v = some (.int (zI r8)) ∧ h6.1 = h.1 ∧ fx_Mt l M_MO_paint (0, 0) [.ref 31, .int (zI x1), .int (zI (x1 + r8)), .int (zI x2)] h6 (fun v h9 => ∃ r11 : Int, v = some (.int (zI r11)) ∧ h9.1 = h6.1 ∧ (fx_V l M_MO_inItself (0, 0) Q 0 0 4 [some (.ref 31), some (.int (zI r11)), some (.int (zI (1 - x2)))] [] h9)))))))) :
    fx_V l M_MO_inItself (0, 0) Q 0 0 4 [some (.ref 31), some (.int (zI x1)), some (.int (zI x2))] [] h := by
  refine fx_iload_n (i := 1) d_MO_inItself_4 rfl rfl ?_
  refine fx_aload_n (i := 0) d_MO_inItself_5 rfl rfl ?_
  refine fx_getI d_MO_inItself_6 lk_MO_131 (at_31 (h := _) hS) rfl ?_
  obtain ⟨hz1, H⟩ := H
  obtain ⟨hz2, H⟩ := H
  refine fx_icmp_ge (t := 40) (n := 12) d_MO_inItself_9 hz1 hz2 (fun z3 => ?_) (fun z3 => ?_)
  · replace H := H.1 z3
    exact fx_end none ⟨rfl, d_MO_inItself_40⟩ (Nat.le_refl _) (Nat.le_refl _) rfl H
  · replace H := H.2 z3
    refine fx_aload_n (i := 0) d_MO_inItself_12 rfl rfl ?_
    refine fx_getI d_MO_inItself_13 lk_MO_264 (at_31 (h := _) hS) rfl ?_
    obtain ⟨hz4, H⟩ := H
    refine fx_if_ne (t := 40) (n := 19) d_MO_inItself_16 hz4 (fun z5 => ?_) (fun z5 => ?_)
    · replace H := H.1 z5
      exact fx_end none ⟨rfl, d_MO_inItself_40⟩ (Nat.le_refl _) (Nat.le_refl _) rfl H
    · replace H := H.2 z5
      refine fx_aload_n (i := 0) d_MO_inItself_19 rfl rfl ?_
      refine fx_iload_n (i := 1) d_MO_inItself_20 rfl rfl ?_
      refine fx_iload_n (i := 1) d_MO_inItself_21 rfl rfl ?_
      refine fx_aload_n (i := 0) d_MO_inItself_22 rfl rfl ?_
      refine fx_iload_n (i := 2) d_MO_inItself_23 rfl rfl ?_
      refine fx_callV (M' := M_MO_inRun) (B' := (0, 0)) (vs := [.int (zI x2)]) (rest := [.int (zI x1), .int (zI x1), .ref 31]) (c1 := 0) (s1 := 0) (n := 27) d_MO_inItself_24 ca_MO_inItself_298 (at_31 (h := _) hS) rfl rfl rfl ⟨by decide, by decide⟩ (Nat.le_of_ble_eq_true rfl) (Or.inl rfl) (fx_Mt.mono H fun v h6 hv => ?_)
      obtain ⟨r8, rfl, e7, H⟩ := hv
      have hS6 := e7.trans hS
      show fx_V l M_MO_inItself (0, 0) Q 0 0 27 [some (.ref 31), some (.int (zI x1)), some (.int (zI x2))] [.int (zI r8), .int (zI x1), .int (zI x1), .ref 31] h6
      refine fx_iadd d_MO_inItself_27 ?_
      refine fx_iload_n (i := 2) d_MO_inItself_28 rfl rfl ?_
      refine fx_callV (M' := M_MO_paint) (B' := (0, 0)) (vs := [.int (zI x1), .int (zI (x1 + r8)), .int (zI x2)]) (rest := []) (c1 := 0) (s1 := 0) (n := 32) d_MO_inItself_29 ca_MO_inItself_301 (at_31 (h := _) hS6) rfl rfl rfl ⟨by decide, by decide⟩ (Nat.le_of_ble_eq_true rfl) (Or.inl rfl) (fx_Mt.mono H fun v h9 hv => ?_)
      obtain ⟨r11, rfl, e10, H⟩ := hv
      have hS9 := e10.trans hS6
      show fx_V l M_MO_inItself (0, 0) Q 0 0 32 [some (.ref 31), some (.int (zI x1)), some (.int (zI x2))] [.int (zI r11)] h9
      refine fx_istore_n (i := 1) (ls2 := [some (.ref 31), some (.int (zI r11)), some (.int (zI x2))]) d_MO_inItself_32 rfl (by decide) rfl ?_
      refine fx_iconst d_MO_inItself_33 ?_
      refine fx_iload_n (i := 2) d_MO_inItself_34 rfl rfl ?_
      refine fx_isub d_MO_inItself_35 ?_
      refine fx_istore_n (i := 2) (ls2 := [some (.ref 31), some (.int (zI r11)), some (.int (zI (1 - x2)))]) d_MO_inItself_36 rfl (by decide) rfl ?_
      refine fx_goto (n := 4) d_MO_inItself_37 ?_
      exact H

set_option maxRecDepth 100000 in
set_option maxHeartbeats 4000000 in
theorem e_MO_inRun {l : Launch} {Q : Option Value → fx_H → Prop} {h : fx_H}  {x : Int}  {a : Nat → Nat} {pp dd : Nat} (hS : h.1 = fx_S0 a pp dd) 
    (H : (fx_V l M_MO_inRun (0, 0) Q 0 0 7 [some (.ref 31), some (.int (zI x)), some (.int (zI 1)), some (.int (zI (-1))), some (.int (zI 0)), none] [] h)) :
    fx_Mt l M_MO_inRun (0, 0) [.ref 31, .int (zI x)] h Q := by
  refine fx_entry (ls := [some (.ref 31), some (.int (zI x)), none, none, none, none]) (by decide) (Nat.le_of_ble_eq_true rfl) rfl ?_
  refine fx_iconst d_MO_inRun_0 ?_
  refine fx_istore_n (i := 2) (ls2 := [some (.ref 31), some (.int (zI x)), some (.int (zI 1)), none, none, none]) d_MO_inRun_1 rfl (by decide) rfl ?_
  refine fx_iconst d_MO_inRun_2 ?_
  refine fx_istore_n (i := 3) (ls2 := [some (.ref 31), some (.int (zI x)), some (.int (zI 1)), some (.int (zI (-1))), none, none]) d_MO_inRun_3 rfl (by decide) rfl ?_
  refine fx_iconst d_MO_inRun_4 ?_
  refine fx_istore (ls2 := [some (.ref 31), some (.int (zI x)), some (.int (zI 1)), some (.int (zI (-1))), some (.int (zI 0)), none]) d_MO_inRun_5 (by decide) rfl ?_
  exact H

set_option maxRecDepth 100000 in
set_option maxHeartbeats 4000000 in
theorem w_MO_inRun_7 {l : Launch} {Q : Option Value → fx_H → Prop} {h : fx_H}  {x1 : Int} {x2 : Int} {x3 : Int} {x4 : Int}  {a : Nat → Nat} {pp dd : Nat} (hS : h.1 = fx_S0 a pp dd) 
    (H : zR x4 ∧ ((13 ≤ x4 → zR x3 ∧ ((x3 < 0 → fx_Mt l M_MO_need (0, 0) [.ref 31, .int (zI 0)] h (fun v h5 => ∃ r7 : Int, v = some (.int (zI r7)) ∧ h5.1 = h.1 ∧ Q (some (.int (zI x3))) h5)) ∧ (¬ (x3 < 0) → fx_Mt l M_MO_need (0, 0) [.ref 31, .int (zI 1)] h (fun v h8 => ∃ r10 : Int, v = some (.int (zI r10)) ∧ h8.1 = h.1 ∧ Q (some (.int (zI x3))) h8)))) ∧ (¬ (13 ≤ x4) → zR x3 ∧ ((0 ≤ x3 → ((x3 < 0 → fx_Mt l M_MO_need (0, 0) [.ref 31, .int (zI 0)] h (fun v h14 => ∃ r16 : Int, v = some (.int (zI r16)) ∧ h14.1 = h.1 ∧ Q (some (.int (zI x3))) h14)) ∧ (¬ (x3 < 0) → fx_Mt l M_MO_need (0, 0) [.ref 31, .int (zI 1)] h (fun v h17 => ∃ r19 : Int, v = some (.int (zI r19)) ∧ h17.1 = h.1 ∧ Q (some (.int (zI x3))) h17)))) ∧ (¬ (0 ≤ x3) → zR (h.2.1 31 22) ∧ ((¬ (h.2.1 31 22) = 0 → ((x3 < 0 → fx_Mt l M_MO_need (0, 0) [.ref 31, .int (zI 0)] h (fun v h23 => ∃ r25 : Int, v = some (.int (zI r25)) ∧ h23.1 = h.1 ∧ Q (some (.int (zI x3))) h23)) ∧ (¬ (x3 < 0) → fx_Mt l M_MO_need (0, 0) [.ref 31, .int (zI 1)] h (fun v h26 => ∃ r28 : Int, v = some (.int (zI r28)) ∧ h26.1 = h.1 ∧ Q (some (.int (zI x3))) h26)))) ∧ ((h.2.1 31 22) = 0 → fx_Mt l M_MO_inBit (0, 0) [.ref 31] h (fun v h29 => ∃ r31 : Int, v = some (.int (zI r31)) ∧ h29.1 = h.1 ∧ (fx_V l M_MO_inRun (0, 0) Q 0 0 37 [some (.ref 31), some (.int (zI x1)), some (.int (zI ((2 * x2) + r31))), some (.int (zI x3)), some (.int (zI x4)), some (.int (zI 0))] [] h29))))))))) :
    fx_V l M_MO_inRun (0, 0) Q 0 0 7 [some (.ref 31), some (.int (zI x1)), some (.int (zI x2)), some (.int (zI x3)), some (.int (zI x4)), none] [] h := by
  refine fx_iload d_MO_inRun_7 rfl ?_
  refine fx_bipush (v := 13) d_MO_inRun_9 rfl ?_
  obtain ⟨hz1, H⟩ := H
  refine fx_icmp_ge (t := 79) (n := 14) d_MO_inRun_11 hz1 (show zR 13 by decide) (fun z2 => ?_) (fun z2 => ?_)
  · replace H := H.1 z2
    refine fx_aload_n (i := 0) d_MO_inRun_79 rfl rfl ?_
    refine fx_iload_n (i := 3) d_MO_inRun_80 rfl rfl ?_
    obtain ⟨hz3, H⟩ := H
    refine fx_if_lt (t := 88) (n := 84) d_MO_inRun_81 hz3 (fun z4 => ?_) (fun z4 => ?_)
    · replace H := H.1 z4
      refine fx_iconst d_MO_inRun_88 ?_
      refine fx_callV (M' := M_MO_need) (B' := (0, 0)) (vs := [.int (zI 0)]) (rest := []) (c1 := 0) (s1 := 0) (n := 92) d_MO_inRun_89 ca_MO_inRun_273 (at_31 (h := _) hS) rfl rfl rfl ⟨by decide, by decide⟩ (Nat.le_of_ble_eq_true rfl) (Or.inl rfl) (fx_Mt.mono H fun v h5 hv => ?_)
      obtain ⟨r7, rfl, e6, H⟩ := hv
      have hS5 := e6.trans hS
      show fx_V l M_MO_inRun (0, 0) Q 0 0 92 [some (.ref 31), some (.int (zI x1)), some (.int (zI x2)), some (.int (zI x3)), some (.int (zI x4)), none] [.int (zI r7)] h5
      refine fx_pop d_MO_inRun_92 rfl ?_
      refine fx_iload_n (i := 3) d_MO_inRun_93 rfl rfl ?_
      exact fx_end (some (.int (zI x3))) ⟨⟨_, rfl, rfl⟩, d_MO_inRun_94⟩ (Nat.le_refl _) (Nat.le_refl _) rfl H
    · replace H := H.2 z4
      refine fx_iconst d_MO_inRun_84 ?_
      refine fx_goto (n := 89) d_MO_inRun_85 ?_
      refine fx_callV (M' := M_MO_need) (B' := (0, 0)) (vs := [.int (zI 1)]) (rest := []) (c1 := 0) (s1 := 0) (n := 92) d_MO_inRun_89 ca_MO_inRun_273 (at_31 (h := _) hS) rfl rfl rfl ⟨by decide, by decide⟩ (Nat.le_of_ble_eq_true rfl) (Or.inl rfl) (fx_Mt.mono H fun v h8 hv => ?_)
      obtain ⟨r10, rfl, e9, H⟩ := hv
      have hS8 := e9.trans hS
      show fx_V l M_MO_inRun (0, 0) Q 0 0 92 [some (.ref 31), some (.int (zI x1)), some (.int (zI x2)), some (.int (zI x3)), some (.int (zI x4)), none] [.int (zI r10)] h8
      refine fx_pop d_MO_inRun_92 rfl ?_
      refine fx_iload_n (i := 3) d_MO_inRun_93 rfl rfl ?_
      exact fx_end (some (.int (zI x3))) ⟨⟨_, rfl, rfl⟩, d_MO_inRun_94⟩ (Nat.le_refl _) (Nat.le_refl _) rfl H
  · replace H := H.2 z2
    refine fx_iload_n (i := 3) d_MO_inRun_14 rfl rfl ?_
    obtain ⟨hz11, H⟩ := H
    refine fx_if_ge (t := 79) (n := 18) d_MO_inRun_15 hz11 (fun z12 => ?_) (fun z12 => ?_)
    · replace H := H.1 z12
      refine fx_aload_n (i := 0) d_MO_inRun_79 rfl rfl ?_
      refine fx_iload_n (i := 3) d_MO_inRun_80 rfl rfl ?_
      refine fx_if_lt (t := 88) (n := 84) d_MO_inRun_81 hz11 (fun z13 => ?_) (fun z13 => ?_)
      · replace H := H.1 z13
        refine fx_iconst d_MO_inRun_88 ?_
        refine fx_callV (M' := M_MO_need) (B' := (0, 0)) (vs := [.int (zI 0)]) (rest := []) (c1 := 0) (s1 := 0) (n := 92) d_MO_inRun_89 ca_MO_inRun_273 (at_31 (h := _) hS) rfl rfl rfl ⟨by decide, by decide⟩ (Nat.le_of_ble_eq_true rfl) (Or.inl rfl) (fx_Mt.mono H fun v h14 hv => ?_)
        obtain ⟨r16, rfl, e15, H⟩ := hv
        have hS14 := e15.trans hS
        show fx_V l M_MO_inRun (0, 0) Q 0 0 92 [some (.ref 31), some (.int (zI x1)), some (.int (zI x2)), some (.int (zI x3)), some (.int (zI x4)), none] [.int (zI r16)] h14
        refine fx_pop d_MO_inRun_92 rfl ?_
        refine fx_iload_n (i := 3) d_MO_inRun_93 rfl rfl ?_
        exact fx_end (some (.int (zI x3))) ⟨⟨_, rfl, rfl⟩, d_MO_inRun_94⟩ (Nat.le_refl _) (Nat.le_refl _) rfl H
      · replace H := H.2 z13
        refine fx_iconst d_MO_inRun_84 ?_
        refine fx_goto (n := 89) d_MO_inRun_85 ?_
        refine fx_callV (M' := M_MO_need) (B' := (0, 0)) (vs := [.int (zI 1)]) (rest := []) (c1 := 0) (s1 := 0) (n := 92) d_MO_inRun_89 ca_MO_inRun_273 (at_31 (h := _) hS) rfl rfl rfl ⟨by decide, by decide⟩ (Nat.le_of_ble_eq_true rfl) (Or.inl rfl) (fx_Mt.mono H fun v h17 hv => ?_)
        obtain ⟨r19, rfl, e18, H⟩ := hv
        have hS17 := e18.trans hS
        show fx_V l M_MO_inRun (0, 0) Q 0 0 92 [some (.ref 31), some (.int (zI x1)), some (.int (zI x2)), some (.int (zI x3)), some (.int (zI x4)), none] [.int (zI r19)] h17
        refine fx_pop d_MO_inRun_92 rfl ?_
        refine fx_iload_n (i := 3) d_MO_inRun_93 rfl rfl ?_
        exact fx_end (some (.int (zI x3))) ⟨⟨_, rfl, rfl⟩, d_MO_inRun_94⟩ (Nat.le_refl _) (Nat.le_refl _) rfl H
    · replace H := H.2 z12
      refine fx_aload_n (i := 0) d_MO_inRun_18 rfl rfl ?_
      refine fx_getI d_MO_inRun_19 lk_MO_264 (at_31 (h := _) hS) rfl ?_
      obtain ⟨hz20, H⟩ := H
      refine fx_if_ne (t := 79) (n := 25) d_MO_inRun_22 hz20 (fun z21 => ?_) (fun z21 => ?_)
      · replace H := H.1 z21
        refine fx_aload_n (i := 0) d_MO_inRun_79 rfl rfl ?_
        refine fx_iload_n (i := 3) d_MO_inRun_80 rfl rfl ?_
        refine fx_if_lt (t := 88) (n := 84) d_MO_inRun_81 hz11 (fun z22 => ?_) (fun z22 => ?_)
        · replace H := H.1 z22
          refine fx_iconst d_MO_inRun_88 ?_
          refine fx_callV (M' := M_MO_need) (B' := (0, 0)) (vs := [.int (zI 0)]) (rest := []) (c1 := 0) (s1 := 0) (n := 92) d_MO_inRun_89 ca_MO_inRun_273 (at_31 (h := _) hS) rfl rfl rfl ⟨by decide, by decide⟩ (Nat.le_of_ble_eq_true rfl) (Or.inl rfl) (fx_Mt.mono H fun v h23 hv => ?_)
          obtain ⟨r25, rfl, e24, H⟩ := hv
          have hS23 := e24.trans hS
          show fx_V l M_MO_inRun (0, 0) Q 0 0 92 [some (.ref 31), some (.int (zI x1)), some (.int (zI x2)), some (.int (zI x3)), some (.int (zI x4)), none] [.int (zI r25)] h23
          refine fx_pop d_MO_inRun_92 rfl ?_
          refine fx_iload_n (i := 3) d_MO_inRun_93 rfl rfl ?_
          exact fx_end (some (.int (zI x3))) ⟨⟨_, rfl, rfl⟩, d_MO_inRun_94⟩ (Nat.le_refl _) (Nat.le_refl _) rfl H
        · replace H := H.2 z22
          refine fx_iconst d_MO_inRun_84 ?_
          refine fx_goto (n := 89) d_MO_inRun_85 ?_
          refine fx_callV (M' := M_MO_need) (B' := (0, 0)) (vs := [.int (zI 1)]) (rest := []) (c1 := 0) (s1 := 0) (n := 92) d_MO_inRun_89 ca_MO_inRun_273 (at_31 (h := _) hS) rfl rfl rfl ⟨by decide, by decide⟩ (Nat.le_of_ble_eq_true rfl) (Or.inl rfl) (fx_Mt.mono H fun v h26 hv => ?_)
          obtain ⟨r28, rfl, e27, H⟩ := hv
          have hS26 := e27.trans hS
          show fx_V l M_MO_inRun (0, 0) Q 0 0 92 [some (.ref 31), some (.int (zI x1)), some (.int (zI x2)), some (.int (zI x3)), some (.int (zI x4)), none] [.int (zI r28)] h26
          refine fx_pop d_MO_inRun_92 rfl ?_
          refine fx_iload_n (i := 3) d_MO_inRun_93 rfl rfl ?_
          exact fx_end (some (.int (zI x3))) ⟨⟨_, rfl, rfl⟩, d_MO_inRun_94⟩ (Nat.le_refl _) (Nat.le_refl _) rfl H
      · replace H := H.2 z21
        refine fx_iconst d_MO_inRun_25 ?_
        refine fx_iload_n (i := 2) d_MO_inRun_26 rfl rfl ?_
        refine fx_imul d_MO_inRun_27 ?_
        refine fx_aload_n (i := 0) d_MO_inRun_28 rfl rfl ?_
        refine fx_callV (M' := M_MO_inBit) (B' := (0, 0)) (vs := []) (rest := [.int (zI (2 * x2))]) (c1 := 0) (s1 := 0) (n := 32) d_MO_inRun_29 ca_MO_inRun_277 (at_31 (h := _) hS) rfl rfl rfl ⟨by decide, by decide⟩ (Nat.le_of_ble_eq_true rfl) (Or.inl rfl) (fx_Mt.mono H fun v h29 hv => ?_)
        obtain ⟨r31, rfl, e30, H⟩ := hv
        have hS29 := e30.trans hS
        show fx_V l M_MO_inRun (0, 0) Q 0 0 32 [some (.ref 31), some (.int (zI x1)), some (.int (zI x2)), some (.int (zI x3)), some (.int (zI x4)), none] [.int (zI r31), .int (zI (2 * x2))] h29
        refine fx_iadd d_MO_inRun_32 ?_
        refine fx_istore_n (i := 2) (ls2 := [some (.ref 31), some (.int (zI x1)), some (.int (zI ((2 * x2) + r31))), some (.int (zI x3)), some (.int (zI x4)), none]) d_MO_inRun_33 rfl (by decide) rfl ?_
        refine fx_iconst d_MO_inRun_34 ?_
        refine fx_istore (ls2 := [some (.ref 31), some (.int (zI x1)), some (.int (zI ((2 * x2) + r31))), some (.int (zI x3)), some (.int (zI x4)), some (.int (zI 0))]) d_MO_inRun_35 (by decide) rfl ?_
        exact H

set_option maxRecDepth 100000 in
set_option maxHeartbeats 4000000 in
theorem w_MO_inRun_37 {l : Launch} {Q : Option Value → fx_H → Prop} {h : fx_H}  {x1 : Int} {x2 : Int} {x3 : Int} {x4 : Int} {x5 : Int}  {a : Nat → Nat} {pp dd : Nat} (hS : h.1 = fx_S0 a pp dd) 
    (H : zR x5 ∧ ((41 ≤ x5 → (fx_V l M_MO_inRun (0, 0) Q 0 0 7 [some (.ref 31), some (.int (zI x1)), some (.int (zI x2)), some (.int (zI x3)), some (.int (zI (x4 + 1))), none] [] h)) ∧ (¬ (41 ≤ x5) → 0 ≤ ((41 * x1) + x5) ∧ ((41 * x1) + x5) < 84 ∧ zR (h.2.2.1 35 (((41 * x1) + x5).toNat)) ∧ zR x2 ∧ ((¬ (h.2.2.1 35 (((41 * x1) + x5).toNat)) = x2 → (fx_V l M_MO_inRun (0, 0) Q 0 0 37 [some (.ref 31), some (.int (zI x1)), some (.int (zI x2)), some (.int (zI x3)), some (.int (zI x4)), some (.int (zI (x5 + 1)))] [] h)) ∧ ((h.2.2.1 35 (((41 * x1) + x5).toNat)) = x2 → (fx_V l M_MO_inRun (0, 0) Q 0 0 37 [some (.ref 31), some (.int (zI x1)), some (.int (zI x2)), some (.int (zI x5)), some (.int (zI x4)), some (.int (zI (x5 + 1)))] [] h)))))) :
    fx_V l M_MO_inRun (0, 0) Q 0 0 37 [some (.ref 31), some (.int (zI x1)), some (.int (zI x2)), some (.int (zI x3)), some (.int (zI x4)), some (.int (zI x5))] [] h := by
  refine fx_iload d_MO_inRun_37 rfl ?_
  refine fx_bipush (v := 41) d_MO_inRun_39 rfl ?_
  obtain ⟨hz1, H⟩ := H
  refine fx_icmp_ge (t := 73) (n := 44) d_MO_inRun_41 hz1 (show zR 41 by decide) (fun z2 => ?_) (fun z2 => ?_)
  · replace H := H.1 z2
    refine fx_iinc (v := x4 + 1) (ls2 := [some (.ref 31), some (.int (zI x1)), some (.int (zI x2)), some (.int (zI x3)), some (.int (zI (x4 + 1))), some (.int (zI x5))]) d_MO_inRun_73 rfl rfl (by decide) rfl ?_
    refine fx_goto (n := 7) d_MO_inRun_76 ?_
    exact fx_fewer [some (.ref 31), some (.int (zI x1)), some (.int (zI x2)), some (.int (zI x3)), some (.int (zI (x4 + 1))), none] ⟨rfl, rfl, rfl, rfl, rfl, trivial⟩ H
  · replace H := H.2 z2
    refine fx_aload_n (i := 0) d_MO_inRun_44 rfl rfl ?_
    refine fx_getR (q := 35) d_MO_inRun_45 lk_MO_38 (at_31 (h := _) hS) rfl rfl ?_
    refine fx_bipush (v := 41) d_MO_inRun_48 rfl ?_
    refine fx_iload_n (i := 1) d_MO_inRun_50 rfl rfl ?_
    refine fx_imul d_MO_inRun_51 ?_
    refine fx_iload d_MO_inRun_52 rfl ?_
    refine fx_iadd d_MO_inRun_54 ?_
    obtain ⟨hn3, H⟩ := H
    obtain ⟨hn4, H⟩ := H
    refine fx_iald d_MO_inRun_55 (at_35 (h := _) hS) hn3 hn4 (by decide) ?_
    refine fx_iload_n (i := 2) d_MO_inRun_56 rfl rfl ?_
    obtain ⟨hz5, H⟩ := H
    obtain ⟨hz6, H⟩ := H
    refine fx_icmp_ne (t := 65) (n := 60) d_MO_inRun_57 hz5 hz6 (fun z7 => ?_) (fun z7 => ?_)
    · replace H := H.1 z7
      refine fx_iload_n (i := 3) d_MO_inRun_65 rfl rfl ?_
      refine fx_istore_n (i := 3) (ls2 := [some (.ref 31), some (.int (zI x1)), some (.int (zI x2)), some (.int (zI x3)), some (.int (zI x4)), some (.int (zI x5))]) d_MO_inRun_66 rfl (by decide) rfl ?_
      refine fx_iinc (v := x5 + 1) (ls2 := [some (.ref 31), some (.int (zI x1)), some (.int (zI x2)), some (.int (zI x3)), some (.int (zI x4)), some (.int (zI (x5 + 1)))]) d_MO_inRun_67 rfl rfl (by decide) rfl ?_
      refine fx_goto (n := 37) d_MO_inRun_70 ?_
      exact H
    · replace H := H.2 z7
      refine fx_iload d_MO_inRun_60 rfl ?_
      refine fx_goto (n := 66) d_MO_inRun_62 ?_
      refine fx_istore_n (i := 3) (ls2 := [some (.ref 31), some (.int (zI x1)), some (.int (zI x2)), some (.int (zI x5)), some (.int (zI x4)), some (.int (zI x5))]) d_MO_inRun_66 rfl (by decide) rfl ?_
      refine fx_iinc (v := x5 + 1) (ls2 := [some (.ref 31), some (.int (zI x1)), some (.int (zI x2)), some (.int (zI x5)), some (.int (zI x4)), some (.int (zI (x5 + 1)))]) d_MO_inRun_67 rfl rfl (by decide) rfl ?_
      refine fx_goto (n := 37) d_MO_inRun_70 ?_
      exact H

set_option maxRecDepth 100000 in
set_option maxHeartbeats 4000000 in
theorem e_MO_paint {l : Launch} {Q : Option Value → fx_H → Prop} {h : fx_H}  {x : Int} {y : Int} {z : Int}  {a : Nat → Nat} {pp dd : Nat} (hS : h.1 = fx_S0 a pp dd) 
    (H : zR y ∧ zR (h.2.1 31 15) ∧ (((h.2.1 31 15) < y → fx_Mt l M_MO_need (0, 0) [.ref 31, .int (zI 0)] h (fun v h4 => ∃ r6 : Int, v = some (.int (zI r6)) ∧ h4.1 = h.1 ∧ zR r6 ∧ ((r6 = 0 → Q (some (.int (zI y))) h4) ∧ (¬ (r6 = 0) → (fx_V l M_MO_paint (0, 0) Q 0 0 23 [some (.ref 31), none, some (.int (zI y)), some (.int (zI z)), some (.int (zI x))] [] h4))))) ∧ (¬ ((h.2.1 31 15) < y) → fx_Mt l M_MO_need (0, 0) [.ref 31, .int (zI 1)] h (fun v h9 => ∃ r11 : Int, v = some (.int (zI r11)) ∧ h9.1 = h.1 ∧ zR r11 ∧ ((r11 = 0 → Q (some (.int (zI y))) h9) ∧ (¬ (r11 = 0) → (fx_V l M_MO_paint (0, 0) Q 0 0 23 [some (.ref 31), none, some (.int (zI y)), some (.int (zI z)), some (.int (zI x))] [] h9))))))) :
    fx_Mt l M_MO_paint (0, 0) [.ref 31, .int (zI x), .int (zI y), .int (zI z)] h Q := by
  refine fx_entry (ls := [some (.ref 31), some (.int (zI x)), some (.int (zI y)), some (.int (zI z)), none]) (by decide) (Nat.le_of_ble_eq_true rfl) rfl ?_
  refine fx_aload_n (i := 0) d_MO_paint_0 rfl rfl ?_
  refine fx_iload_n (i := 2) d_MO_paint_1 rfl rfl ?_
  refine fx_aload_n (i := 0) d_MO_paint_2 rfl rfl ?_
  refine fx_getI d_MO_paint_3 lk_MO_131 (at_31 (h := _) hS) rfl ?_
  obtain ⟨hz1, H⟩ := H
  obtain ⟨hz2, H⟩ := H
  refine fx_icmp_gt (t := 13) (n := 9) d_MO_paint_6 hz1 hz2 (fun z3 => ?_) (fun z3 => ?_)
  · replace H := H.1 z3
    refine fx_iconst d_MO_paint_13 ?_
    refine fx_callV (M' := M_MO_need) (B' := (0, 0)) (vs := [.int (zI 0)]) (rest := []) (c1 := 0) (s1 := 0) (n := 17) d_MO_paint_14 ca_MO_paint_273 (at_31 (h := _) hS) rfl rfl rfl ⟨by decide, by decide⟩ (Nat.le_of_ble_eq_true rfl) (Or.inl rfl) (fx_Mt.mono H fun v h4 hv => ?_)
    obtain ⟨r6, rfl, e5, H⟩ := hv
    have hS4 := e5.trans hS
    show fx_V l M_MO_paint (0, 0) Q 0 0 17 [some (.ref 31), some (.int (zI x)), some (.int (zI y)), some (.int (zI z)), none] [.int (zI r6)] h4
    obtain ⟨hz7, H⟩ := H
    refine fx_if_eq (t := 43) (n := 20) d_MO_paint_17 hz7 (fun z8 => ?_) (fun z8 => ?_)
    · replace H := H.1 z8
      refine fx_iload_n (i := 2) d_MO_paint_43 rfl rfl ?_
      exact fx_end (some (.int (zI y))) ⟨⟨_, rfl, rfl⟩, d_MO_paint_44⟩ (Nat.le_refl _) (Nat.le_refl _) rfl H
    · replace H := H.2 z8
      refine fx_iload_n (i := 1) d_MO_paint_20 rfl rfl ?_
      refine fx_istore (ls2 := [some (.ref 31), some (.int (zI x)), some (.int (zI y)), some (.int (zI z)), some (.int (zI x))]) d_MO_paint_21 (by decide) rfl ?_
      exact fx_fewer [some (.ref 31), none, some (.int (zI y)), some (.int (zI z)), some (.int (zI x))] ⟨rfl, rfl, rfl, rfl, trivial⟩ H
  · replace H := H.2 z3
    refine fx_iconst d_MO_paint_9 ?_
    refine fx_goto (n := 14) d_MO_paint_10 ?_
    refine fx_callV (M' := M_MO_need) (B' := (0, 0)) (vs := [.int (zI 1)]) (rest := []) (c1 := 0) (s1 := 0) (n := 17) d_MO_paint_14 ca_MO_paint_273 (at_31 (h := _) hS) rfl rfl rfl ⟨by decide, by decide⟩ (Nat.le_of_ble_eq_true rfl) (Or.inl rfl) (fx_Mt.mono H fun v h9 hv => ?_)
    obtain ⟨r11, rfl, e10, H⟩ := hv
    have hS9 := e10.trans hS
    show fx_V l M_MO_paint (0, 0) Q 0 0 17 [some (.ref 31), some (.int (zI x)), some (.int (zI y)), some (.int (zI z)), none] [.int (zI r11)] h9
    obtain ⟨hz12, H⟩ := H
    refine fx_if_eq (t := 43) (n := 20) d_MO_paint_17 hz12 (fun z13 => ?_) (fun z13 => ?_)
    · replace H := H.1 z13
      refine fx_iload_n (i := 2) d_MO_paint_43 rfl rfl ?_
      exact fx_end (some (.int (zI y))) ⟨⟨_, rfl, rfl⟩, d_MO_paint_44⟩ (Nat.le_refl _) (Nat.le_refl _) rfl H
    · replace H := H.2 z13
      refine fx_iload_n (i := 1) d_MO_paint_20 rfl rfl ?_
      refine fx_istore (ls2 := [some (.ref 31), some (.int (zI x)), some (.int (zI y)), some (.int (zI z)), some (.int (zI x))]) d_MO_paint_21 (by decide) rfl ?_
      exact fx_fewer [some (.ref 31), none, some (.int (zI y)), some (.int (zI z)), some (.int (zI x))] ⟨rfl, rfl, rfl, rfl, trivial⟩ H

set_option maxRecDepth 100000 in
set_option maxHeartbeats 4000000 in
theorem w_MO_paint_23 {l : Launch} {Q : Option Value → fx_H → Prop} {h : fx_H}  {x2 : Int} {x3 : Int} {x4 : Int}  {a : Nat → Nat} {pp dd : Nat} (hS : h.1 = fx_S0 a pp dd) 
    (H : zR x4 ∧ zR x2 ∧ ((x2 ≤ x4 → Q (some (.int (zI x2))) h) ∧ (¬ (x2 ≤ x4) → 0 ≤ x4 ∧ x4 < 40 ∧ (fx_V l M_MO_paint (0, 0) Q 0 0 23 [some (.ref 31), none, some (.int (zI x2)), some (.int (zI x3)), some (.int (zI (x4 + 1)))] [] (fx_uA h 36 (x4.toNat) x3))))) :
    fx_V l M_MO_paint (0, 0) Q 0 0 23 [some (.ref 31), none, some (.int (zI x2)), some (.int (zI x3)), some (.int (zI x4))] [] h := by
  refine fx_iload d_MO_paint_23 rfl ?_
  refine fx_iload_n (i := 2) d_MO_paint_25 rfl rfl ?_
  obtain ⟨hz1, H⟩ := H
  obtain ⟨hz2, H⟩ := H
  refine fx_icmp_ge (t := 43) (n := 29) d_MO_paint_26 hz1 hz2 (fun z3 => ?_) (fun z3 => ?_)
  · replace H := H.1 z3
    refine fx_iload_n (i := 2) d_MO_paint_43 rfl rfl ?_
    exact fx_end (some (.int (zI x2))) ⟨⟨_, rfl, rfl⟩, d_MO_paint_44⟩ (Nat.le_refl _) (Nat.le_refl _) rfl H
  · replace H := H.2 z3
    refine fx_aload_n (i := 0) d_MO_paint_29 rfl rfl ?_
    refine fx_getR (q := 36) d_MO_paint_30 lk_MO_41 (at_31 (h := _) hS) rfl rfl ?_
    refine fx_iload d_MO_paint_33 rfl ?_
    refine fx_iload_n (i := 3) d_MO_paint_35 rfl rfl ?_
    obtain ⟨hn4, H⟩ := H
    obtain ⟨hn5, H⟩ := H
    refine fx_iast d_MO_paint_36 (at_36 (h := _) hS) hn4 hn5 (by decide) ?_
    refine fx_iinc (v := x4 + 1) (ls2 := [some (.ref 31), none, some (.int (zI x2)), some (.int (zI x3)), some (.int (zI (x4 + 1)))]) d_MO_paint_37 rfl rfl (by decide) rfl ?_
    refine fx_goto (n := 23) d_MO_paint_40 ?_
    exact H

set_option maxRecDepth 100000 in
set_option maxHeartbeats 4000000 in
theorem e_MO_inBy {l : Launch} {Q : Option Value → fx_H → Prop} {h : fx_H}    {a : Nat → Nat} {pp dd : Nat} (hS : h.1 = fx_S0 a pp dd) 
    (H : (fx_V l M_MO_inBy (0, 0) Q 0 0 4 [some (.ref 31), some (.int (zI (-1))), some (.int (zI 0)), none, none, none, none, none, none] [] h)) :
    fx_Mt l M_MO_inBy (0, 0) [.ref 31] h Q := by
  refine fx_entry (ls := [some (.ref 31), none, none, none, none, none, none, none, none]) (by decide) (Nat.le_of_ble_eq_true rfl) rfl ?_
  refine fx_iconst d_MO_inBy_0 ?_
  refine fx_istore_n (i := 1) (ls2 := [some (.ref 31), some (.int (zI (-1))), none, none, none, none, none, none, none]) d_MO_inBy_1 rfl (by decide) rfl ?_
  refine fx_iconst d_MO_inBy_2 ?_
  refine fx_istore_n (i := 2) (ls2 := [some (.ref 31), some (.int (zI (-1))), some (.int (zI 0)), none, none, none, none, none, none]) d_MO_inBy_3 rfl (by decide) rfl ?_
  exact H

set_option maxRecDepth 100000 in
set_option maxHeartbeats 4000000 in
theorem w_MO_inBy_4 {l : Launch} {Q : Option Value → fx_H → Prop} {h : fx_H}  {x1 : Int} {x2 : Int}  {a : Nat → Nat} {pp dd : Nat} (hS : h.1 = fx_S0 a pp dd) 
    (H : zR x1 ∧ zR (h.2.1 31 15) ∧ (((h.2.1 31 15) ≤ x1 → Q none h) ∧ (¬ ((h.2.1 31 15) ≤ x1) → zR (h.2.1 31 22) ∧ ((¬ (h.2.1 31 22) = 0 → Q none h) ∧ ((h.2.1 31 22) = 0 → ((0 ≤ x1 → fx_Mt l M_MO_changeAbove (0, 0) [.ref 31, .int (zI x1), .int (zI x2)] h (fun v h7 => ∃ r9 : Int, v = some (.int (zI r9)) ∧ h7.1 = h.1 ∧ fx_Mt l M_MO_changeBack (0, 0) [.ref 31, .int (zI r9), .int (zI x2)] h7 (fun v h10 => ∃ r12 : Int, v = some (.int (zI r12)) ∧ h10.1 = h7.1 ∧ fx_Mt l M_MO_inSign (0, 0) [.ref 31] h10 (fun v h13 => ∃ r15 : Int, v = some (.int (zI r15)) ∧ h13.1 = h10.1 ∧ zR (h13.2.1 31 22) ∧ (((h13.2.1 31 22) = 0 → zR r15 ∧ ((¬ r15 = 10 → ((¬ r15 = 11 → zR (r9 + r15) ∧ (((r9 + r15) ≤ x1 → fx_Mt l M_MO_need (0, 0) [.ref 31, .int (zI 0)] h13 (fun v h23 => ∃ r25 : Int, v = some (.int (zI r25)) ∧ h23.1 = h13.1 ∧ fx_Mt l M_MO_paint (0, 0) [.ref 31, .int (zI x1), .int (zI (r9 + r15)), .int (zI x2)] h23 (fun v h26 => ∃ r28 : Int, v = some (.int (zI r28)) ∧ h26.1 = h23.1 ∧ (fx_V l M_MO_inBy (0, 0) Q 0 0 4 [some (.ref 31), some (.int (zI r28)), some (.int (zI (1 - x2))), none, none, none, none, none, none] [] h26)))) ∧ (¬ ((r9 + r15) ≤ x1) → fx_Mt l M_MO_need (0, 0) [.ref 31, .int (zI 1)] h13 (fun v h29 => ∃ r31 : Int, v = some (.int (zI r31)) ∧ h29.1 = h13.1 ∧ fx_Mt l M_MO_paint (0, 0) [.ref 31, .int (zI x1), .int (zI (r9 + r15)), .int (zI x2)] h29 (fun v h32 => ∃ r34 : Int, v = some (.int (zI r34)) ∧ h32.1 = h29.1 ∧ (fx_V l M_MO_inBy (0, 0) Q 0 0 4 [some (.ref 31), some (.int (zI r34)), some (.int (zI (1 - x2))), none, none, none, none, none, none] [] h32)))))) ∧ (r15 = 11 → fx_Mt l M_MO_inRun (0, 0) [.ref 31, .int (zI x2)] h13 (fun v h35 => ∃ r37 : Int, v = some (.int (zI r37)) ∧ h35.1 = h13.1 ∧ fx_Mt l M_MO_inRun (0, 0) [.ref 31, .int (zI (1 - x2))] h35 (fun v h38 => ∃ r40 : Int, v = some (.int (zI r40)) ∧ h38.1 = h35.1 ∧ zR (r37 + r40) ∧ (((r37 + r40) ≤ 0 → fx_Mt l M_MO_need (0, 0) [.ref 31, .int (zI 0)] h38 (fun v h43 => ∃ r45 : Int, v = some (.int (zI r45)) ∧ h43.1 = h38.1 ∧ zR (h43.2.1 31 22) ∧ ((¬ (h43.2.1 31 22) = 0 → (fx_V l M_MO_inBy (0, 0) Q 0 0 4 [some (.ref 31), some (.int (zI x1)), some (.int (zI x2)), none, none, none, none, none, none] [] h43)) ∧ ((h43.2.1 31 22) = 0 → fx_Mt l M_MO_paint (0, 0) [.ref 31, .int (zI x1), .int (zI (x1 + r37)), .int (zI x2)] h43 (fun v h48 => ∃ r50 : Int, v = some (.int (zI r50)) ∧ h48.1 = h43.1 ∧ fx_Mt l M_MO_paint (0, 0) [.ref 31, .int (zI (x1 + r37)), .int (zI ((x1 + r37) + r40)), .int (zI (1 - x2))] h48 (fun v h51 => ∃ r53 : Int, v = some (.int (zI r53)) ∧ h51.1 = h48.1 ∧ (fx_V l M_MO_inBy (0, 0) Q 0 0 4 [some (.ref 31), some (.int (zI r53)), some (.int (zI x2)), none, none, none, none, none, none] [] h51))))))) ∧ (¬ ((r37 + r40) ≤ 0) → fx_Mt l M_MO_need (0, 0) [.ref 31, .int (zI 1)] h38 (fun v h54 => ∃ r56 : Int, v = some (.int (zI r56)) ∧ h54.1 = h38.1 ∧ zR (h54.2.1 31 22) ∧ ((¬ (h54.2.1 31 22) = 0 → (fx_V l M_MO_inBy (0, 0) Q 0 0 4 [some (.ref 31), some (.int (zI x1)), some (.int (zI x2)), none, none, none, none, none, none] [] h54)) ∧ ((h54.2.1 31 22) = 0 → fx_Mt l M_MO_paint (0, 0) [.ref 31, .int (zI x1), .int (zI (x1 + r37)), .int (zI x2)] h54 (fun v h59 => ∃ r61 : Int, v = some (.int (zI r61)) ∧ h59.1 = h54.1 ∧ fx_Mt l M_MO_paint (0, 0) [.ref 31, .int (zI (x1 + r37)), .int (zI ((x1 + r37) + r40)), .int (zI (1 - x2))] h59 (fun v h62 => ∃ r64 : Int, v = some (.int (zI r64)) ∧ h62.1 = h59.1 ∧ (fx_V l M_MO_inBy (0, 0) Q 0 0 4 [some (.ref 31), some (.int (zI r64)), some (.int (zI x2)), none, none, none, none, none, none] [] h62))))))))))))) ∧ (r15 = 10 → zR r12 ∧ zR (h13.2.1 31 15) ∧ (((h13.2.1 31 15) ≤ r12 → fx_Mt l M_MO_need (0, 0) [.ref 31, .int (zI 0)] h13 (fun v h68 => ∃ r70 : Int, v = some (.int (zI r70)) ∧ h68.1 = h13.1 ∧ fx_Mt l M_MO_paint (0, 0) [.ref 31, .int (zI x1), .int (zI r12), .int (zI x2)] h68 (fun v h71 => ∃ r73 : Int, v = some (.int (zI r73)) ∧ h71.1 = h68.1 ∧ (fx_V l M_MO_inBy (0, 0) Q 0 0 4 [some (.ref 31), some (.int (zI r73)), some (.int (zI x2)), none, none, none, none, none, none] [] h71)))) ∧ (¬ ((h13.2.1 31 15) ≤ r12) → fx_Mt l M_MO_need (0, 0) [.ref 31, .int (zI 1)] h13 (fun v h74 => ∃ r76 : Int, v = some (.int (zI r76)) ∧ h74.1 = h13.1 ∧ fx_Mt l M_MO_paint (0, 0) [.ref 31, .int (zI x1), .int (zI r12), .int (zI x2)] h74 (fun v h77 => ∃ r79 : Int, v = some (.int (zI r79)) ∧ h77.1 = h74.1 ∧ (fx_V l M_MO_inBy (0, 0) Q 0 0 4 [some (.ref 31), some (.int (zI r79)), some (.int (zI x2)), none, none, none, none, none, none] [] h77)))))))) ∧ (¬ ((h13.2.1 31 22) = 0) → Q none h13)))))) ∧ (¬ (0 ≤ x1) → fx_Mt l M_MO_changeAbove (0, 0) [.ref 31, .int (zI x1), .int (zI x2)] h (fun v h80 => ∃ r82 : Int, v = some (.int (zI r82)) ∧ h80.1 = h.1 ∧ fx_Mt l M_MO_changeBack (0, 0) [.ref 31, .int (zI r82), .int (zI x2)] h80 (fun v h83 => ∃ r85 : Int, v = some (.int (zI r85)) ∧ h83.1 = h80.1 ∧ fx_Mt l M_MO_inSign (0, 0) [.ref 31] h83 (fun v h86 => ∃ r88 : Int, v = some (.int (zI r88)) ∧ h86.1 = h83.1 ∧ zR (h86.2.1 31 22) ∧ (((h86.2.1 31 22) = 0 → zR r88 ∧ ((¬ r88 = 10 → ((¬ r88 = 11 → zR (r82 + r88) ∧ (((r82 + r88) ≤ x1 → fx_Mt l M_MO_need (0, 0) [.ref 31, .int (zI 0)] h86 (fun v h96 => ∃ r98 : Int, v = some (.int (zI r98)) ∧ h96.1 = h86.1 ∧ fx_Mt l M_MO_paint (0, 0) [.ref 31, .int (zI 0), .int (zI (r82 + r88)), .int (zI x2)] h96 (fun v h99 => ∃ r101 : Int, v = some (.int (zI r101)) ∧ h99.1 = h96.1 ∧ (fx_V l M_MO_inBy (0, 0) Q 0 0 4 [some (.ref 31), some (.int (zI r101)), some (.int (zI (1 - x2))), none, none, none, none, none, none] [] h99)))) ∧ (¬ ((r82 + r88) ≤ x1) → fx_Mt l M_MO_need (0, 0) [.ref 31, .int (zI 1)] h86 (fun v h102 => ∃ r104 : Int, v = some (.int (zI r104)) ∧ h102.1 = h86.1 ∧ fx_Mt l M_MO_paint (0, 0) [.ref 31, .int (zI 0), .int (zI (r82 + r88)), .int (zI x2)] h102 (fun v h105 => ∃ r107 : Int, v = some (.int (zI r107)) ∧ h105.1 = h102.1 ∧ (fx_V l M_MO_inBy (0, 0) Q 0 0 4 [some (.ref 31), some (.int (zI r107)), some (.int (zI (1 - x2))), none, none, none, none, none, none] [] h105)))))) ∧ (r88 = 11 → fx_Mt l M_MO_inRun (0, 0) [.ref 31, .int (zI x2)] h86 (fun v h108 => ∃ r110 : Int, v = some (.int (zI r110)) ∧ h108.1 = h86.1 ∧ fx_Mt l M_MO_inRun (0, 0) [.ref 31, .int (zI (1 - x2))] h108 (fun v h111 => ∃ r113 : Int, v = some (.int (zI r113)) ∧ h111.1 = h108.1 ∧ zR (r110 + r113) ∧ (((r110 + r113) ≤ 0 → fx_Mt l M_MO_need (0, 0) [.ref 31, .int (zI 0)] h111 (fun v h116 => ∃ r118 : Int, v = some (.int (zI r118)) ∧ h116.1 = h111.1 ∧ zR (h116.2.1 31 22) ∧ ((¬ (h116.2.1 31 22) = 0 → (fx_V l M_MO_inBy (0, 0) Q 0 0 4 [some (.ref 31), some (.int (zI x1)), some (.int (zI x2)), none, none, none, none, none, none] [] h116)) ∧ ((h116.2.1 31 22) = 0 → fx_Mt l M_MO_paint (0, 0) [.ref 31, .int (zI 0), .int (zI (0 + r110)), .int (zI x2)] h116 (fun v h121 => ∃ r123 : Int, v = some (.int (zI r123)) ∧ h121.1 = h116.1 ∧ fx_Mt l M_MO_paint (0, 0) [.ref 31, .int (zI (0 + r110)), .int (zI ((0 + r110) + r113)), .int (zI (1 - x2))] h121 (fun v h124 => ∃ r126 : Int, v = some (.int (zI r126)) ∧ h124.1 = h121.1 ∧ (fx_V l M_MO_inBy (0, 0) Q 0 0 4 [some (.ref 31), some (.int (zI r126)), some (.int (zI x2)), none, none, none, none, none, none] [] h124))))))) ∧ (¬ ((r110 + r113) ≤ 0) → fx_Mt l M_MO_need (0, 0) [.ref 31, .int (zI 1)] h111 (fun v h127 => ∃ r129 : Int, v = some (.int (zI r129)) ∧ h127.1 = h111.1 ∧ zR (h127.2.1 31 22) ∧ ((¬ (h127.2.1 31 22) = 0 → (fx_V l M_MO_inBy (0, 0) Q 0 0 4 [some (.ref 31), some (.int (zI x1)), some (.int (zI x2)), none, none, none, none, none, none] [] h127)) ∧ ((h127.2.1 31 22) = 0 → fx_Mt l M_MO_paint (0, 0) [.ref 31, .int (zI 0), .int (zI (0 + r110)), .int (zI x2)] h127 (fun v h132 => ∃ r134 : Int, v = some (.int (zI r134)) ∧ h132.1 = h127.1 ∧ fx_Mt l M_MO_paint (0, 0) [.ref 31, .int (zI (0 + r110)), .int (zI ((0 + r110) + r113)), .int (zI (1 - x2))] h132 (fun v h135 => ∃ r137 : Int, v = some (.int (zI r137)) ∧ h135.1 = h132.1 ∧ (fx_V l M_MO_inBy (0, 0) Q 0 0 4 [some (.ref 31), some (.int (zI r137)), some (.int (zI x2)), none, none, none, none, none, none] [] h135))))))))))))) ∧ (r88 = 10 → zR r85 ∧ zR (h86.2.1 31 15) ∧ (((h86.2.1 31 15) ≤ r85 → fx_Mt l M_MO_need (0, 0) [.ref 31, .int (zI 0)] h86 (fun v h141 => ∃ r143 : Int, v = some (.int (zI r143)) ∧ h141.1 = h86.1 ∧ fx_Mt l M_MO_paint (0, 0) [.ref 31, .int (zI 0), .int (zI r85), .int (zI x2)] h141 (fun v h144 => ∃ r146 : Int, v = some (.int (zI r146)) ∧ h144.1 = h141.1 ∧ (fx_V l M_MO_inBy (0, 0) Q 0 0 4 [some (.ref 31), some (.int (zI r146)), some (.int (zI x2)), none, none, none, none, none, none] [] h144)))) ∧ (¬ ((h86.2.1 31 15) ≤ r85) → fx_Mt l M_MO_need (0, 0) [.ref 31, .int (zI 1)] h86 (fun v h147 => ∃ r149 : Int, v = some (.int (zI r149)) ∧ h147.1 = h86.1 ∧ fx_Mt l M_MO_paint (0, 0) [.ref 31, .int (zI 0), .int (zI r85), .int (zI x2)] h147 (fun v h150 => ∃ r152 : Int, v = some (.int (zI r152)) ∧ h150.1 = h147.1 ∧ (fx_V l M_MO_inBy (0, 0) Q 0 0 4 [some (.ref 31), some (.int (zI r152)), some (.int (zI x2)), none, none, none, none, none, none] [] h150)))))))) ∧ (¬ ((h86.2.1 31 22) = 0) → Q none h86)))))))))))) :
    fx_V l M_MO_inBy (0, 0) Q 0 0 4 [some (.ref 31), some (.int (zI x1)), some (.int (zI x2)), none, none, none, none, none, none] [] h := by
  refine fx_iload_n (i := 1) d_MO_inBy_4 rfl rfl ?_
  refine fx_aload_n (i := 0) d_MO_inBy_5 rfl rfl ?_
  refine fx_getI d_MO_inBy_6 lk_MO_131 (at_31 (h := _) hS) rfl ?_
  obtain ⟨hz1, H⟩ := H
  obtain ⟨hz2, H⟩ := H
  refine fx_icmp_ge (t := 217) (n := 12) d_MO_inBy_9 hz1 hz2 (fun z3 => ?_) (fun z3 => ?_)
  · replace H := H.1 z3
    exact fx_end none ⟨rfl, d_MO_inBy_217⟩ (Nat.le_refl _) (Nat.le_refl _) rfl H
  · replace H := H.2 z3
    refine fx_aload_n (i := 0) d_MO_inBy_12 rfl rfl ?_
    refine fx_getI d_MO_inBy_13 lk_MO_264 (at_31 (h := _) hS) rfl ?_
    obtain ⟨hz4, H⟩ := H
    refine fx_if_ne (t := 217) (n := 19) d_MO_inBy_16 hz4 (fun z5 => ?_) (fun z5 => ?_)
    · replace H := H.1 z5
      exact fx_end none ⟨rfl, d_MO_inBy_217⟩ (Nat.le_refl _) (Nat.le_refl _) rfl H
    · replace H := H.2 z5
      refine fx_iload_n (i := 1) d_MO_inBy_19 rfl rfl ?_
      refine fx_if_ge (t := 27) (n := 23) d_MO_inBy_20 hz1 (fun z6 => ?_) (fun z6 => ?_)
      · replace H := H.1 z6
        refine fx_iload_n (i := 1) d_MO_inBy_27 rfl rfl ?_
        refine fx_istore_n (i := 3) (ls2 := [some (.ref 31), some (.int (zI x1)), some (.int (zI x2)), some (.int (zI x1)), none, none, none, none, none]) d_MO_inBy_28 rfl (by decide) rfl ?_
        refine fx_aload_n (i := 0) d_MO_inBy_29 rfl rfl ?_
        refine fx_iload_n (i := 1) d_MO_inBy_30 rfl rfl ?_
        refine fx_iload_n (i := 2) d_MO_inBy_31 rfl rfl ?_
        refine fx_callV (M' := M_MO_changeAbove) (B' := (0, 0)) (vs := [.int (zI x1), .int (zI x2)]) (rest := []) (c1 := 0) (s1 := 0) (n := 35) d_MO_inBy_32 ca_MO_inBy_164 (at_31 (h := _) hS) rfl rfl rfl ⟨by decide, by decide⟩ (Nat.le_of_ble_eq_true rfl) (Or.inl rfl) (fx_Mt.mono H fun v h7 hv => ?_)
        obtain ⟨r9, rfl, e8, H⟩ := hv
        have hS7 := e8.trans hS
        show fx_V l M_MO_inBy (0, 0) Q 0 0 35 [some (.ref 31), some (.int (zI x1)), some (.int (zI x2)), some (.int (zI x1)), none, none, none, none, none] [.int (zI r9)] h7
        refine fx_istore (ls2 := [some (.ref 31), some (.int (zI x1)), some (.int (zI x2)), some (.int (zI x1)), some (.int (zI r9)), none, none, none, none]) d_MO_inBy_35 (by decide) rfl ?_
        refine fx_aload_n (i := 0) d_MO_inBy_37 rfl rfl ?_
        refine fx_iload d_MO_inBy_38 rfl ?_
        refine fx_iload_n (i := 2) d_MO_inBy_40 rfl rfl ?_
        refine fx_callV (M' := M_MO_changeBack) (B' := (0, 0)) (vs := [.int (zI r9), .int (zI x2)]) (rest := []) (c1 := 0) (s1 := 0) (n := 44) d_MO_inBy_41 ca_MO_inBy_167 (at_31 (h := _) hS7) rfl rfl rfl ⟨by decide, by decide⟩ (Nat.le_of_ble_eq_true rfl) (Or.inl rfl) (fx_Mt.mono H fun v h10 hv => ?_)
        obtain ⟨r12, rfl, e11, H⟩ := hv
        have hS10 := e11.trans hS7
        show fx_V l M_MO_inBy (0, 0) Q 0 0 44 [some (.ref 31), some (.int (zI x1)), some (.int (zI x2)), some (.int (zI x1)), some (.int (zI r9)), none, none, none, none] [.int (zI r12)] h10
        refine fx_istore (ls2 := [some (.ref 31), some (.int (zI x1)), some (.int (zI x2)), some (.int (zI x1)), some (.int (zI r9)), some (.int (zI r12)), none, none, none]) d_MO_inBy_44 (by decide) rfl ?_
        refine fx_aload_n (i := 0) d_MO_inBy_46 rfl rfl ?_
        refine fx_callV (M' := M_MO_inSign) (B' := (0, 0)) (vs := []) (rest := []) (c1 := 0) (s1 := 0) (n := 50) d_MO_inBy_47 ca_MO_inBy_304 (at_31 (h := _) hS10) rfl rfl rfl ⟨by decide, by decide⟩ (Nat.le_of_ble_eq_true rfl) (Or.inl rfl) (fx_Mt.mono H fun v h13 hv => ?_)
        obtain ⟨r15, rfl, e14, H⟩ := hv
        have hS13 := e14.trans hS10
        show fx_V l M_MO_inBy (0, 0) Q 0 0 50 [some (.ref 31), some (.int (zI x1)), some (.int (zI x2)), some (.int (zI x1)), some (.int (zI r9)), some (.int (zI r12)), none, none, none] [.int (zI r15)] h13
        refine fx_istore (ls2 := [some (.ref 31), some (.int (zI x1)), some (.int (zI x2)), some (.int (zI x1)), some (.int (zI r9)), some (.int (zI r12)), some (.int (zI r15)), none, none]) d_MO_inBy_50 (by decide) rfl ?_
        refine fx_aload_n (i := 0) d_MO_inBy_52 rfl rfl ?_
        refine fx_getI d_MO_inBy_53 lk_MO_264 (at_31 (h := _) hS13) rfl ?_
        obtain ⟨hz16, H⟩ := H
        refine fx_if_eq (t := 60) (n := 59) d_MO_inBy_56 hz16 (fun z17 => ?_) (fun z17 => ?_)
        · replace H := H.1 z17
          refine fx_iload d_MO_inBy_60 rfl ?_
          refine fx_bipush (v := 10) d_MO_inBy_62 rfl ?_
          obtain ⟨hz18, H⟩ := H
          refine fx_icmp_ne (t := 98) (n := 67) d_MO_inBy_64 hz18 (show zR 10 by decide) (fun z19 => ?_) (fun z19 => ?_)
          · replace H := H.1 z19
            refine fx_iload d_MO_inBy_98 rfl ?_
            refine fx_bipush (v := 11) d_MO_inBy_100 rfl ?_
            refine fx_icmp_ne (t := 179) (n := 105) d_MO_inBy_102 hz18 (show zR 11 by decide) (fun z20 => ?_) (fun z20 => ?_)
            · replace H := H.1 z20
              refine fx_aload_n (i := 0) d_MO_inBy_179 rfl rfl ?_
              refine fx_iload d_MO_inBy_180 rfl ?_
              refine fx_iload d_MO_inBy_182 rfl ?_
              refine fx_iadd d_MO_inBy_184 ?_
              refine fx_iload_n (i := 1) d_MO_inBy_185 rfl rfl ?_
              obtain ⟨hz21, H⟩ := H
              refine fx_icmp_le (t := 193) (n := 189) d_MO_inBy_186 hz21 hz1 (fun z22 => ?_) (fun z22 => ?_)
              · replace H := H.1 z22
                refine fx_iconst d_MO_inBy_193 ?_
                refine fx_callV (M' := M_MO_need) (B' := (0, 0)) (vs := [.int (zI 0)]) (rest := []) (c1 := 0) (s1 := 0) (n := 197) d_MO_inBy_194 ca_MO_inBy_273 (at_31 (h := _) hS13) rfl rfl rfl ⟨by decide, by decide⟩ (Nat.le_of_ble_eq_true rfl) (Or.inl rfl) (fx_Mt.mono H fun v h23 hv => ?_)
                obtain ⟨r25, rfl, e24, H⟩ := hv
                have hS23 := e24.trans hS13
                show fx_V l M_MO_inBy (0, 0) Q 0 0 197 [some (.ref 31), some (.int (zI x1)), some (.int (zI x2)), some (.int (zI x1)), some (.int (zI r9)), some (.int (zI r12)), some (.int (zI r15)), none, none] [.int (zI r25)] h23
                refine fx_pop d_MO_inBy_197 rfl ?_
                refine fx_aload_n (i := 0) d_MO_inBy_198 rfl rfl ?_
                refine fx_iload_n (i := 3) d_MO_inBy_199 rfl rfl ?_
                refine fx_iload d_MO_inBy_200 rfl ?_
                refine fx_iload d_MO_inBy_202 rfl ?_
                refine fx_iadd d_MO_inBy_204 ?_
                refine fx_iload_n (i := 2) d_MO_inBy_205 rfl rfl ?_
                refine fx_callV (M' := M_MO_paint) (B' := (0, 0)) (vs := [.int (zI x1), .int (zI (r9 + r15)), .int (zI x2)]) (rest := []) (c1 := 0) (s1 := 0) (n := 209) d_MO_inBy_206 ca_MO_inBy_301 (at_31 (h := _) hS23) rfl rfl rfl ⟨by decide, by decide⟩ (Nat.le_of_ble_eq_true rfl) (Or.inl rfl) (fx_Mt.mono H fun v h26 hv => ?_)
                obtain ⟨r28, rfl, e27, H⟩ := hv
                have hS26 := e27.trans hS23
                show fx_V l M_MO_inBy (0, 0) Q 0 0 209 [some (.ref 31), some (.int (zI x1)), some (.int (zI x2)), some (.int (zI x1)), some (.int (zI r9)), some (.int (zI r12)), some (.int (zI r15)), none, none] [.int (zI r28)] h26
                refine fx_istore_n (i := 1) (ls2 := [some (.ref 31), some (.int (zI r28)), some (.int (zI x2)), some (.int (zI x1)), some (.int (zI r9)), some (.int (zI r12)), some (.int (zI r15)), none, none]) d_MO_inBy_209 rfl (by decide) rfl ?_
                refine fx_iconst d_MO_inBy_210 ?_
                refine fx_iload_n (i := 2) d_MO_inBy_211 rfl rfl ?_
                refine fx_isub d_MO_inBy_212 ?_
                refine fx_istore_n (i := 2) (ls2 := [some (.ref 31), some (.int (zI r28)), some (.int (zI (1 - x2))), some (.int (zI x1)), some (.int (zI r9)), some (.int (zI r12)), some (.int (zI r15)), none, none]) d_MO_inBy_213 rfl (by decide) rfl ?_
                refine fx_goto (n := 4) d_MO_inBy_214 ?_
                exact fx_fewer [some (.ref 31), some (.int (zI r28)), some (.int (zI (1 - x2))), none, none, none, none, none, none] ⟨rfl, rfl, rfl, trivial⟩ H
              · replace H := H.2 z22
                refine fx_iconst d_MO_inBy_189 ?_
                refine fx_goto (n := 194) d_MO_inBy_190 ?_
                refine fx_callV (M' := M_MO_need) (B' := (0, 0)) (vs := [.int (zI 1)]) (rest := []) (c1 := 0) (s1 := 0) (n := 197) d_MO_inBy_194 ca_MO_inBy_273 (at_31 (h := _) hS13) rfl rfl rfl ⟨by decide, by decide⟩ (Nat.le_of_ble_eq_true rfl) (Or.inl rfl) (fx_Mt.mono H fun v h29 hv => ?_)
                obtain ⟨r31, rfl, e30, H⟩ := hv
                have hS29 := e30.trans hS13
                show fx_V l M_MO_inBy (0, 0) Q 0 0 197 [some (.ref 31), some (.int (zI x1)), some (.int (zI x2)), some (.int (zI x1)), some (.int (zI r9)), some (.int (zI r12)), some (.int (zI r15)), none, none] [.int (zI r31)] h29
                refine fx_pop d_MO_inBy_197 rfl ?_
                refine fx_aload_n (i := 0) d_MO_inBy_198 rfl rfl ?_
                refine fx_iload_n (i := 3) d_MO_inBy_199 rfl rfl ?_
                refine fx_iload d_MO_inBy_200 rfl ?_
                refine fx_iload d_MO_inBy_202 rfl ?_
                refine fx_iadd d_MO_inBy_204 ?_
                refine fx_iload_n (i := 2) d_MO_inBy_205 rfl rfl ?_
                refine fx_callV (M' := M_MO_paint) (B' := (0, 0)) (vs := [.int (zI x1), .int (zI (r9 + r15)), .int (zI x2)]) (rest := []) (c1 := 0) (s1 := 0) (n := 209) d_MO_inBy_206 ca_MO_inBy_301 (at_31 (h := _) hS29) rfl rfl rfl ⟨by decide, by decide⟩ (Nat.le_of_ble_eq_true rfl) (Or.inl rfl) (fx_Mt.mono H fun v h32 hv => ?_)
                obtain ⟨r34, rfl, e33, H⟩ := hv
                have hS32 := e33.trans hS29
                show fx_V l M_MO_inBy (0, 0) Q 0 0 209 [some (.ref 31), some (.int (zI x1)), some (.int (zI x2)), some (.int (zI x1)), some (.int (zI r9)), some (.int (zI r12)), some (.int (zI r15)), none, none] [.int (zI r34)] h32
                refine fx_istore_n (i := 1) (ls2 := [some (.ref 31), some (.int (zI r34)), some (.int (zI x2)), some (.int (zI x1)), some (.int (zI r9)), some (.int (zI r12)), some (.int (zI r15)), none, none]) d_MO_inBy_209 rfl (by decide) rfl ?_
                refine fx_iconst d_MO_inBy_210 ?_
                refine fx_iload_n (i := 2) d_MO_inBy_211 rfl rfl ?_
                refine fx_isub d_MO_inBy_212 ?_
                refine fx_istore_n (i := 2) (ls2 := [some (.ref 31), some (.int (zI r34)), some (.int (zI (1 - x2))), some (.int (zI x1)), some (.int (zI r9)), some (.int (zI r12)), some (.int (zI r15)), none, none]) d_MO_inBy_213 rfl (by decide) rfl ?_
                refine fx_goto (n := 4) d_MO_inBy_214 ?_
                exact fx_fewer [some (.ref 31), some (.int (zI r34)), some (.int (zI (1 - x2))), none, none, none, none, none, none] ⟨rfl, rfl, rfl, trivial⟩ H
            · replace H := H.2 z20
              refine fx_aload_n (i := 0) d_MO_inBy_105 rfl rfl ?_
              refine fx_iload_n (i := 2) d_MO_inBy_106 rfl rfl ?_
              refine fx_callV (M' := M_MO_inRun) (B' := (0, 0)) (vs := [.int (zI x2)]) (rest := []) (c1 := 0) (s1 := 0) (n := 110) d_MO_inBy_107 ca_MO_inBy_298 (at_31 (h := _) hS13) rfl rfl rfl ⟨by decide, by decide⟩ (Nat.le_of_ble_eq_true rfl) (Or.inl rfl) (fx_Mt.mono H fun v h35 hv => ?_)
              obtain ⟨r37, rfl, e36, H⟩ := hv
              have hS35 := e36.trans hS13
              show fx_V l M_MO_inBy (0, 0) Q 0 0 110 [some (.ref 31), some (.int (zI x1)), some (.int (zI x2)), some (.int (zI x1)), some (.int (zI r9)), some (.int (zI r12)), some (.int (zI r15)), none, none] [.int (zI r37)] h35
              refine fx_istore (ls2 := [some (.ref 31), some (.int (zI x1)), some (.int (zI x2)), some (.int (zI x1)), some (.int (zI r9)), some (.int (zI r12)), some (.int (zI r15)), some (.int (zI r37)), none]) d_MO_inBy_110 (by decide) rfl ?_
              refine fx_aload_n (i := 0) d_MO_inBy_112 rfl rfl ?_
              refine fx_iconst d_MO_inBy_113 ?_
              refine fx_iload_n (i := 2) d_MO_inBy_114 rfl rfl ?_
              refine fx_isub d_MO_inBy_115 ?_
              refine fx_callV (M' := M_MO_inRun) (B' := (0, 0)) (vs := [.int (zI (1 - x2))]) (rest := []) (c1 := 0) (s1 := 0) (n := 119) d_MO_inBy_116 ca_MO_inBy_298 (at_31 (h := _) hS35) rfl rfl rfl ⟨by decide, by decide⟩ (Nat.le_of_ble_eq_true rfl) (Or.inl rfl) (fx_Mt.mono H fun v h38 hv => ?_)
              obtain ⟨r40, rfl, e39, H⟩ := hv
              have hS38 := e39.trans hS35
              show fx_V l M_MO_inBy (0, 0) Q 0 0 119 [some (.ref 31), some (.int (zI x1)), some (.int (zI x2)), some (.int (zI x1)), some (.int (zI r9)), some (.int (zI r12)), some (.int (zI r15)), some (.int (zI r37)), none] [.int (zI r40)] h38
              refine fx_istore (ls2 := [some (.ref 31), some (.int (zI x1)), some (.int (zI x2)), some (.int (zI x1)), some (.int (zI r9)), some (.int (zI r12)), some (.int (zI r15)), some (.int (zI r37)), some (.int (zI r40))]) d_MO_inBy_119 (by decide) rfl ?_
              refine fx_aload_n (i := 0) d_MO_inBy_121 rfl rfl ?_
              refine fx_iload d_MO_inBy_122 rfl ?_
              refine fx_iload d_MO_inBy_124 rfl ?_
              refine fx_iadd d_MO_inBy_126 ?_
              obtain ⟨hz41, H⟩ := H
              refine fx_if_le (t := 134) (n := 130) d_MO_inBy_127 hz41 (fun z42 => ?_) (fun z42 => ?_)
              · replace H := H.1 z42
                refine fx_iconst d_MO_inBy_134 ?_
                refine fx_callV (M' := M_MO_need) (B' := (0, 0)) (vs := [.int (zI 0)]) (rest := []) (c1 := 0) (s1 := 0) (n := 138) d_MO_inBy_135 ca_MO_inBy_273 (at_31 (h := _) hS38) rfl rfl rfl ⟨by decide, by decide⟩ (Nat.le_of_ble_eq_true rfl) (Or.inl rfl) (fx_Mt.mono H fun v h43 hv => ?_)
                obtain ⟨r45, rfl, e44, H⟩ := hv
                have hS43 := e44.trans hS38
                show fx_V l M_MO_inBy (0, 0) Q 0 0 138 [some (.ref 31), some (.int (zI x1)), some (.int (zI x2)), some (.int (zI x1)), some (.int (zI r9)), some (.int (zI r12)), some (.int (zI r15)), some (.int (zI r37)), some (.int (zI r40))] [.int (zI r45)] h43
                refine fx_pop d_MO_inBy_138 rfl ?_
                refine fx_aload_n (i := 0) d_MO_inBy_139 rfl rfl ?_
                refine fx_getI d_MO_inBy_140 lk_MO_264 (at_31 (h := _) hS43) rfl ?_
                obtain ⟨hz46, H⟩ := H
                refine fx_if_ne (t := 176) (n := 146) d_MO_inBy_143 hz46 (fun z47 => ?_) (fun z47 => ?_)
                · replace H := H.1 z47
                  refine fx_goto (n := 214) d_MO_inBy_176 ?_
                  refine fx_goto (n := 4) d_MO_inBy_214 ?_
                  exact fx_fewer [some (.ref 31), some (.int (zI x1)), some (.int (zI x2)), none, none, none, none, none, none] ⟨rfl, rfl, rfl, trivial⟩ H
                · replace H := H.2 z47
                  refine fx_aload_n (i := 0) d_MO_inBy_146 rfl rfl ?_
                  refine fx_iload_n (i := 3) d_MO_inBy_147 rfl rfl ?_
                  refine fx_iload_n (i := 3) d_MO_inBy_148 rfl rfl ?_
                  refine fx_iload d_MO_inBy_149 rfl ?_
                  refine fx_iadd d_MO_inBy_151 ?_
                  refine fx_iload_n (i := 2) d_MO_inBy_152 rfl rfl ?_
                  refine fx_callV (M' := M_MO_paint) (B' := (0, 0)) (vs := [.int (zI x1), .int (zI (x1 + r37)), .int (zI x2)]) (rest := []) (c1 := 0) (s1 := 0) (n := 156) d_MO_inBy_153 ca_MO_inBy_301 (at_31 (h := _) hS43) rfl rfl rfl ⟨by decide, by decide⟩ (Nat.le_of_ble_eq_true rfl) (Or.inl rfl) (fx_Mt.mono H fun v h48 hv => ?_)
                  obtain ⟨r50, rfl, e49, H⟩ := hv
                  have hS48 := e49.trans hS43
                  show fx_V l M_MO_inBy (0, 0) Q 0 0 156 [some (.ref 31), some (.int (zI x1)), some (.int (zI x2)), some (.int (zI x1)), some (.int (zI r9)), some (.int (zI r12)), some (.int (zI r15)), some (.int (zI r37)), some (.int (zI r40))] [.int (zI r50)] h48
                  refine fx_pop d_MO_inBy_156 rfl ?_
                  refine fx_aload_n (i := 0) d_MO_inBy_157 rfl rfl ?_
                  refine fx_iload_n (i := 3) d_MO_inBy_158 rfl rfl ?_
                  refine fx_iload d_MO_inBy_159 rfl ?_
                  refine fx_iadd d_MO_inBy_161 ?_
                  refine fx_iload_n (i := 3) d_MO_inBy_162 rfl rfl ?_
                  refine fx_iload d_MO_inBy_163 rfl ?_
                  refine fx_iadd d_MO_inBy_165 ?_
                  refine fx_iload d_MO_inBy_166 rfl ?_
                  refine fx_iadd d_MO_inBy_168 ?_
                  refine fx_iconst d_MO_inBy_169 ?_
                  refine fx_iload_n (i := 2) d_MO_inBy_170 rfl rfl ?_
                  refine fx_isub d_MO_inBy_171 ?_
                  refine fx_callV (M' := M_MO_paint) (B' := (0, 0)) (vs := [.int (zI (x1 + r37)), .int (zI ((x1 + r37) + r40)), .int (zI (1 - x2))]) (rest := []) (c1 := 0) (s1 := 0) (n := 175) d_MO_inBy_172 ca_MO_inBy_301 (at_31 (h := _) hS48) rfl rfl rfl ⟨by decide, by decide⟩ (Nat.le_of_ble_eq_true rfl) (Or.inl rfl) (fx_Mt.mono H fun v h51 hv => ?_)
                  obtain ⟨r53, rfl, e52, H⟩ := hv
                  have hS51 := e52.trans hS48
                  show fx_V l M_MO_inBy (0, 0) Q 0 0 175 [some (.ref 31), some (.int (zI x1)), some (.int (zI x2)), some (.int (zI x1)), some (.int (zI r9)), some (.int (zI r12)), some (.int (zI r15)), some (.int (zI r37)), some (.int (zI r40))] [.int (zI r53)] h51
                  refine fx_istore_n (i := 1) (ls2 := [some (.ref 31), some (.int (zI r53)), some (.int (zI x2)), some (.int (zI x1)), some (.int (zI r9)), some (.int (zI r12)), some (.int (zI r15)), some (.int (zI r37)), some (.int (zI r40))]) d_MO_inBy_175 rfl (by decide) rfl ?_
                  refine fx_goto (n := 214) d_MO_inBy_176 ?_
                  refine fx_goto (n := 4) d_MO_inBy_214 ?_
                  exact fx_fewer [some (.ref 31), some (.int (zI r53)), some (.int (zI x2)), none, none, none, none, none, none] ⟨rfl, rfl, rfl, trivial⟩ H
              · replace H := H.2 z42
                refine fx_iconst d_MO_inBy_130 ?_
                refine fx_goto (n := 135) d_MO_inBy_131 ?_
                refine fx_callV (M' := M_MO_need) (B' := (0, 0)) (vs := [.int (zI 1)]) (rest := []) (c1 := 0) (s1 := 0) (n := 138) d_MO_inBy_135 ca_MO_inBy_273 (at_31 (h := _) hS38) rfl rfl rfl ⟨by decide, by decide⟩ (Nat.le_of_ble_eq_true rfl) (Or.inl rfl) (fx_Mt.mono H fun v h54 hv => ?_)
                obtain ⟨r56, rfl, e55, H⟩ := hv
                have hS54 := e55.trans hS38
                show fx_V l M_MO_inBy (0, 0) Q 0 0 138 [some (.ref 31), some (.int (zI x1)), some (.int (zI x2)), some (.int (zI x1)), some (.int (zI r9)), some (.int (zI r12)), some (.int (zI r15)), some (.int (zI r37)), some (.int (zI r40))] [.int (zI r56)] h54
                refine fx_pop d_MO_inBy_138 rfl ?_
                refine fx_aload_n (i := 0) d_MO_inBy_139 rfl rfl ?_
                refine fx_getI d_MO_inBy_140 lk_MO_264 (at_31 (h := _) hS54) rfl ?_
                obtain ⟨hz57, H⟩ := H
                refine fx_if_ne (t := 176) (n := 146) d_MO_inBy_143 hz57 (fun z58 => ?_) (fun z58 => ?_)
                · replace H := H.1 z58
                  refine fx_goto (n := 214) d_MO_inBy_176 ?_
                  refine fx_goto (n := 4) d_MO_inBy_214 ?_
                  exact fx_fewer [some (.ref 31), some (.int (zI x1)), some (.int (zI x2)), none, none, none, none, none, none] ⟨rfl, rfl, rfl, trivial⟩ H
                · replace H := H.2 z58
                  refine fx_aload_n (i := 0) d_MO_inBy_146 rfl rfl ?_
                  refine fx_iload_n (i := 3) d_MO_inBy_147 rfl rfl ?_
                  refine fx_iload_n (i := 3) d_MO_inBy_148 rfl rfl ?_
                  refine fx_iload d_MO_inBy_149 rfl ?_
                  refine fx_iadd d_MO_inBy_151 ?_
                  refine fx_iload_n (i := 2) d_MO_inBy_152 rfl rfl ?_
                  refine fx_callV (M' := M_MO_paint) (B' := (0, 0)) (vs := [.int (zI x1), .int (zI (x1 + r37)), .int (zI x2)]) (rest := []) (c1 := 0) (s1 := 0) (n := 156) d_MO_inBy_153 ca_MO_inBy_301 (at_31 (h := _) hS54) rfl rfl rfl ⟨by decide, by decide⟩ (Nat.le_of_ble_eq_true rfl) (Or.inl rfl) (fx_Mt.mono H fun v h59 hv => ?_)
                  obtain ⟨r61, rfl, e60, H⟩ := hv
                  have hS59 := e60.trans hS54
                  show fx_V l M_MO_inBy (0, 0) Q 0 0 156 [some (.ref 31), some (.int (zI x1)), some (.int (zI x2)), some (.int (zI x1)), some (.int (zI r9)), some (.int (zI r12)), some (.int (zI r15)), some (.int (zI r37)), some (.int (zI r40))] [.int (zI r61)] h59
                  refine fx_pop d_MO_inBy_156 rfl ?_
                  refine fx_aload_n (i := 0) d_MO_inBy_157 rfl rfl ?_
                  refine fx_iload_n (i := 3) d_MO_inBy_158 rfl rfl ?_
                  refine fx_iload d_MO_inBy_159 rfl ?_
                  refine fx_iadd d_MO_inBy_161 ?_
                  refine fx_iload_n (i := 3) d_MO_inBy_162 rfl rfl ?_
                  refine fx_iload d_MO_inBy_163 rfl ?_
                  refine fx_iadd d_MO_inBy_165 ?_
                  refine fx_iload d_MO_inBy_166 rfl ?_
                  refine fx_iadd d_MO_inBy_168 ?_
                  refine fx_iconst d_MO_inBy_169 ?_
                  refine fx_iload_n (i := 2) d_MO_inBy_170 rfl rfl ?_
                  refine fx_isub d_MO_inBy_171 ?_
                  refine fx_callV (M' := M_MO_paint) (B' := (0, 0)) (vs := [.int (zI (x1 + r37)), .int (zI ((x1 + r37) + r40)), .int (zI (1 - x2))]) (rest := []) (c1 := 0) (s1 := 0) (n := 175) d_MO_inBy_172 ca_MO_inBy_301 (at_31 (h := _) hS59) rfl rfl rfl ⟨by decide, by decide⟩ (Nat.le_of_ble_eq_true rfl) (Or.inl rfl) (fx_Mt.mono H fun v h62 hv => ?_)
                  obtain ⟨r64, rfl, e63, H⟩ := hv
                  have hS62 := e63.trans hS59
                  show fx_V l M_MO_inBy (0, 0) Q 0 0 175 [some (.ref 31), some (.int (zI x1)), some (.int (zI x2)), some (.int (zI x1)), some (.int (zI r9)), some (.int (zI r12)), some (.int (zI r15)), some (.int (zI r37)), some (.int (zI r40))] [.int (zI r64)] h62
                  refine fx_istore_n (i := 1) (ls2 := [some (.ref 31), some (.int (zI r64)), some (.int (zI x2)), some (.int (zI x1)), some (.int (zI r9)), some (.int (zI r12)), some (.int (zI r15)), some (.int (zI r37)), some (.int (zI r40))]) d_MO_inBy_175 rfl (by decide) rfl ?_
                  refine fx_goto (n := 214) d_MO_inBy_176 ?_
                  refine fx_goto (n := 4) d_MO_inBy_214 ?_
                  exact fx_fewer [some (.ref 31), some (.int (zI r64)), some (.int (zI x2)), none, none, none, none, none, none] ⟨rfl, rfl, rfl, trivial⟩ H
          · replace H := H.2 z19
            refine fx_aload_n (i := 0) d_MO_inBy_67 rfl rfl ?_
            refine fx_iload d_MO_inBy_68 rfl ?_
            refine fx_aload_n (i := 0) d_MO_inBy_70 rfl rfl ?_
            refine fx_getI d_MO_inBy_71 lk_MO_131 (at_31 (h := _) hS13) rfl ?_
            obtain ⟨hz65, H⟩ := H
            obtain ⟨hz66, H⟩ := H
            refine fx_icmp_ge (t := 81) (n := 77) d_MO_inBy_74 hz65 hz66 (fun z67 => ?_) (fun z67 => ?_)
            · replace H := H.1 z67
              refine fx_iconst d_MO_inBy_81 ?_
              refine fx_callV (M' := M_MO_need) (B' := (0, 0)) (vs := [.int (zI 0)]) (rest := []) (c1 := 0) (s1 := 0) (n := 85) d_MO_inBy_82 ca_MO_inBy_273 (at_31 (h := _) hS13) rfl rfl rfl ⟨by decide, by decide⟩ (Nat.le_of_ble_eq_true rfl) (Or.inl rfl) (fx_Mt.mono H fun v h68 hv => ?_)
              obtain ⟨r70, rfl, e69, H⟩ := hv
              have hS68 := e69.trans hS13
              show fx_V l M_MO_inBy (0, 0) Q 0 0 85 [some (.ref 31), some (.int (zI x1)), some (.int (zI x2)), some (.int (zI x1)), some (.int (zI r9)), some (.int (zI r12)), some (.int (zI r15)), none, none] [.int (zI r70)] h68
              refine fx_pop d_MO_inBy_85 rfl ?_
              refine fx_aload_n (i := 0) d_MO_inBy_86 rfl rfl ?_
              refine fx_iload_n (i := 3) d_MO_inBy_87 rfl rfl ?_
              refine fx_iload d_MO_inBy_88 rfl ?_
              refine fx_iload_n (i := 2) d_MO_inBy_90 rfl rfl ?_
              refine fx_callV (M' := M_MO_paint) (B' := (0, 0)) (vs := [.int (zI x1), .int (zI r12), .int (zI x2)]) (rest := []) (c1 := 0) (s1 := 0) (n := 94) d_MO_inBy_91 ca_MO_inBy_301 (at_31 (h := _) hS68) rfl rfl rfl ⟨by decide, by decide⟩ (Nat.le_of_ble_eq_true rfl) (Or.inl rfl) (fx_Mt.mono H fun v h71 hv => ?_)
              obtain ⟨r73, rfl, e72, H⟩ := hv
              have hS71 := e72.trans hS68
              show fx_V l M_MO_inBy (0, 0) Q 0 0 94 [some (.ref 31), some (.int (zI x1)), some (.int (zI x2)), some (.int (zI x1)), some (.int (zI r9)), some (.int (zI r12)), some (.int (zI r15)), none, none] [.int (zI r73)] h71
              refine fx_istore_n (i := 1) (ls2 := [some (.ref 31), some (.int (zI r73)), some (.int (zI x2)), some (.int (zI x1)), some (.int (zI r9)), some (.int (zI r12)), some (.int (zI r15)), none, none]) d_MO_inBy_94 rfl (by decide) rfl ?_
              refine fx_goto (n := 214) d_MO_inBy_95 ?_
              refine fx_goto (n := 4) d_MO_inBy_214 ?_
              exact fx_fewer [some (.ref 31), some (.int (zI r73)), some (.int (zI x2)), none, none, none, none, none, none] ⟨rfl, rfl, rfl, trivial⟩ H
            · replace H := H.2 z67
              refine fx_iconst d_MO_inBy_77 ?_
              refine fx_goto (n := 82) d_MO_inBy_78 ?_
              refine fx_callV (M' := M_MO_need) (B' := (0, 0)) (vs := [.int (zI 1)]) (rest := []) (c1 := 0) (s1 := 0) (n := 85) d_MO_inBy_82 ca_MO_inBy_273 (at_31 (h := _) hS13) rfl rfl rfl ⟨by decide, by decide⟩ (Nat.le_of_ble_eq_true rfl) (Or.inl rfl) (fx_Mt.mono H fun v h74 hv => ?_)
              obtain ⟨r76, rfl, e75, H⟩ := hv
              have hS74 := e75.trans hS13
              show fx_V l M_MO_inBy (0, 0) Q 0 0 85 [some (.ref 31), some (.int (zI x1)), some (.int (zI x2)), some (.int (zI x1)), some (.int (zI r9)), some (.int (zI r12)), some (.int (zI r15)), none, none] [.int (zI r76)] h74
              refine fx_pop d_MO_inBy_85 rfl ?_
              refine fx_aload_n (i := 0) d_MO_inBy_86 rfl rfl ?_
              refine fx_iload_n (i := 3) d_MO_inBy_87 rfl rfl ?_
              refine fx_iload d_MO_inBy_88 rfl ?_
              refine fx_iload_n (i := 2) d_MO_inBy_90 rfl rfl ?_
              refine fx_callV (M' := M_MO_paint) (B' := (0, 0)) (vs := [.int (zI x1), .int (zI r12), .int (zI x2)]) (rest := []) (c1 := 0) (s1 := 0) (n := 94) d_MO_inBy_91 ca_MO_inBy_301 (at_31 (h := _) hS74) rfl rfl rfl ⟨by decide, by decide⟩ (Nat.le_of_ble_eq_true rfl) (Or.inl rfl) (fx_Mt.mono H fun v h77 hv => ?_)
              obtain ⟨r79, rfl, e78, H⟩ := hv
              have hS77 := e78.trans hS74
              show fx_V l M_MO_inBy (0, 0) Q 0 0 94 [some (.ref 31), some (.int (zI x1)), some (.int (zI x2)), some (.int (zI x1)), some (.int (zI r9)), some (.int (zI r12)), some (.int (zI r15)), none, none] [.int (zI r79)] h77
              refine fx_istore_n (i := 1) (ls2 := [some (.ref 31), some (.int (zI r79)), some (.int (zI x2)), some (.int (zI x1)), some (.int (zI r9)), some (.int (zI r12)), some (.int (zI r15)), none, none]) d_MO_inBy_94 rfl (by decide) rfl ?_
              refine fx_goto (n := 214) d_MO_inBy_95 ?_
              refine fx_goto (n := 4) d_MO_inBy_214 ?_
              exact fx_fewer [some (.ref 31), some (.int (zI r79)), some (.int (zI x2)), none, none, none, none, none, none] ⟨rfl, rfl, rfl, trivial⟩ H
        · replace H := H.2 z17
          exact fx_end none ⟨rfl, d_MO_inBy_59⟩ (Nat.le_refl _) (Nat.le_refl _) rfl H
      · replace H := H.2 z6
        refine fx_iconst d_MO_inBy_23 ?_
        refine fx_goto (n := 28) d_MO_inBy_24 ?_
        refine fx_istore_n (i := 3) (ls2 := [some (.ref 31), some (.int (zI x1)), some (.int (zI x2)), some (.int (zI 0)), none, none, none, none, none]) d_MO_inBy_28 rfl (by decide) rfl ?_
        refine fx_aload_n (i := 0) d_MO_inBy_29 rfl rfl ?_
        refine fx_iload_n (i := 1) d_MO_inBy_30 rfl rfl ?_
        refine fx_iload_n (i := 2) d_MO_inBy_31 rfl rfl ?_
        refine fx_callV (M' := M_MO_changeAbove) (B' := (0, 0)) (vs := [.int (zI x1), .int (zI x2)]) (rest := []) (c1 := 0) (s1 := 0) (n := 35) d_MO_inBy_32 ca_MO_inBy_164 (at_31 (h := _) hS) rfl rfl rfl ⟨by decide, by decide⟩ (Nat.le_of_ble_eq_true rfl) (Or.inl rfl) (fx_Mt.mono H fun v h80 hv => ?_)
        obtain ⟨r82, rfl, e81, H⟩ := hv
        have hS80 := e81.trans hS
        show fx_V l M_MO_inBy (0, 0) Q 0 0 35 [some (.ref 31), some (.int (zI x1)), some (.int (zI x2)), some (.int (zI 0)), none, none, none, none, none] [.int (zI r82)] h80
        refine fx_istore (ls2 := [some (.ref 31), some (.int (zI x1)), some (.int (zI x2)), some (.int (zI 0)), some (.int (zI r82)), none, none, none, none]) d_MO_inBy_35 (by decide) rfl ?_
        refine fx_aload_n (i := 0) d_MO_inBy_37 rfl rfl ?_
        refine fx_iload d_MO_inBy_38 rfl ?_
        refine fx_iload_n (i := 2) d_MO_inBy_40 rfl rfl ?_
        refine fx_callV (M' := M_MO_changeBack) (B' := (0, 0)) (vs := [.int (zI r82), .int (zI x2)]) (rest := []) (c1 := 0) (s1 := 0) (n := 44) d_MO_inBy_41 ca_MO_inBy_167 (at_31 (h := _) hS80) rfl rfl rfl ⟨by decide, by decide⟩ (Nat.le_of_ble_eq_true rfl) (Or.inl rfl) (fx_Mt.mono H fun v h83 hv => ?_)
        obtain ⟨r85, rfl, e84, H⟩ := hv
        have hS83 := e84.trans hS80
        show fx_V l M_MO_inBy (0, 0) Q 0 0 44 [some (.ref 31), some (.int (zI x1)), some (.int (zI x2)), some (.int (zI 0)), some (.int (zI r82)), none, none, none, none] [.int (zI r85)] h83
        refine fx_istore (ls2 := [some (.ref 31), some (.int (zI x1)), some (.int (zI x2)), some (.int (zI 0)), some (.int (zI r82)), some (.int (zI r85)), none, none, none]) d_MO_inBy_44 (by decide) rfl ?_
        refine fx_aload_n (i := 0) d_MO_inBy_46 rfl rfl ?_
        refine fx_callV (M' := M_MO_inSign) (B' := (0, 0)) (vs := []) (rest := []) (c1 := 0) (s1 := 0) (n := 50) d_MO_inBy_47 ca_MO_inBy_304 (at_31 (h := _) hS83) rfl rfl rfl ⟨by decide, by decide⟩ (Nat.le_of_ble_eq_true rfl) (Or.inl rfl) (fx_Mt.mono H fun v h86 hv => ?_)
        obtain ⟨r88, rfl, e87, H⟩ := hv
        have hS86 := e87.trans hS83
        show fx_V l M_MO_inBy (0, 0) Q 0 0 50 [some (.ref 31), some (.int (zI x1)), some (.int (zI x2)), some (.int (zI 0)), some (.int (zI r82)), some (.int (zI r85)), none, none, none] [.int (zI r88)] h86
        refine fx_istore (ls2 := [some (.ref 31), some (.int (zI x1)), some (.int (zI x2)), some (.int (zI 0)), some (.int (zI r82)), some (.int (zI r85)), some (.int (zI r88)), none, none]) d_MO_inBy_50 (by decide) rfl ?_
        refine fx_aload_n (i := 0) d_MO_inBy_52 rfl rfl ?_
        refine fx_getI d_MO_inBy_53 lk_MO_264 (at_31 (h := _) hS86) rfl ?_
        obtain ⟨hz89, H⟩ := H
        refine fx_if_eq (t := 60) (n := 59) d_MO_inBy_56 hz89 (fun z90 => ?_) (fun z90 => ?_)
        · replace H := H.1 z90
          refine fx_iload d_MO_inBy_60 rfl ?_
          refine fx_bipush (v := 10) d_MO_inBy_62 rfl ?_
          obtain ⟨hz91, H⟩ := H
          refine fx_icmp_ne (t := 98) (n := 67) d_MO_inBy_64 hz91 (show zR 10 by decide) (fun z92 => ?_) (fun z92 => ?_)
          · replace H := H.1 z92
            refine fx_iload d_MO_inBy_98 rfl ?_
            refine fx_bipush (v := 11) d_MO_inBy_100 rfl ?_
            refine fx_icmp_ne (t := 179) (n := 105) d_MO_inBy_102 hz91 (show zR 11 by decide) (fun z93 => ?_) (fun z93 => ?_)
            · replace H := H.1 z93
              refine fx_aload_n (i := 0) d_MO_inBy_179 rfl rfl ?_
              refine fx_iload d_MO_inBy_180 rfl ?_
              refine fx_iload d_MO_inBy_182 rfl ?_
              refine fx_iadd d_MO_inBy_184 ?_
              refine fx_iload_n (i := 1) d_MO_inBy_185 rfl rfl ?_
              obtain ⟨hz94, H⟩ := H
              refine fx_icmp_le (t := 193) (n := 189) d_MO_inBy_186 hz94 hz1 (fun z95 => ?_) (fun z95 => ?_)
              · replace H := H.1 z95
                refine fx_iconst d_MO_inBy_193 ?_
                refine fx_callV (M' := M_MO_need) (B' := (0, 0)) (vs := [.int (zI 0)]) (rest := []) (c1 := 0) (s1 := 0) (n := 197) d_MO_inBy_194 ca_MO_inBy_273 (at_31 (h := _) hS86) rfl rfl rfl ⟨by decide, by decide⟩ (Nat.le_of_ble_eq_true rfl) (Or.inl rfl) (fx_Mt.mono H fun v h96 hv => ?_)
                obtain ⟨r98, rfl, e97, H⟩ := hv
                have hS96 := e97.trans hS86
                show fx_V l M_MO_inBy (0, 0) Q 0 0 197 [some (.ref 31), some (.int (zI x1)), some (.int (zI x2)), some (.int (zI 0)), some (.int (zI r82)), some (.int (zI r85)), some (.int (zI r88)), none, none] [.int (zI r98)] h96
                refine fx_pop d_MO_inBy_197 rfl ?_
                refine fx_aload_n (i := 0) d_MO_inBy_198 rfl rfl ?_
                refine fx_iload_n (i := 3) d_MO_inBy_199 rfl rfl ?_
                refine fx_iload d_MO_inBy_200 rfl ?_
                refine fx_iload d_MO_inBy_202 rfl ?_
                refine fx_iadd d_MO_inBy_204 ?_
                refine fx_iload_n (i := 2) d_MO_inBy_205 rfl rfl ?_
                refine fx_callV (M' := M_MO_paint) (B' := (0, 0)) (vs := [.int (zI 0), .int (zI (r82 + r88)), .int (zI x2)]) (rest := []) (c1 := 0) (s1 := 0) (n := 209) d_MO_inBy_206 ca_MO_inBy_301 (at_31 (h := _) hS96) rfl rfl rfl ⟨by decide, by decide⟩ (Nat.le_of_ble_eq_true rfl) (Or.inl rfl) (fx_Mt.mono H fun v h99 hv => ?_)
                obtain ⟨r101, rfl, e100, H⟩ := hv
                have hS99 := e100.trans hS96
                show fx_V l M_MO_inBy (0, 0) Q 0 0 209 [some (.ref 31), some (.int (zI x1)), some (.int (zI x2)), some (.int (zI 0)), some (.int (zI r82)), some (.int (zI r85)), some (.int (zI r88)), none, none] [.int (zI r101)] h99
                refine fx_istore_n (i := 1) (ls2 := [some (.ref 31), some (.int (zI r101)), some (.int (zI x2)), some (.int (zI 0)), some (.int (zI r82)), some (.int (zI r85)), some (.int (zI r88)), none, none]) d_MO_inBy_209 rfl (by decide) rfl ?_
                refine fx_iconst d_MO_inBy_210 ?_
                refine fx_iload_n (i := 2) d_MO_inBy_211 rfl rfl ?_
                refine fx_isub d_MO_inBy_212 ?_
                refine fx_istore_n (i := 2) (ls2 := [some (.ref 31), some (.int (zI r101)), some (.int (zI (1 - x2))), some (.int (zI 0)), some (.int (zI r82)), some (.int (zI r85)), some (.int (zI r88)), none, none]) d_MO_inBy_213 rfl (by decide) rfl ?_
                refine fx_goto (n := 4) d_MO_inBy_214 ?_
                exact fx_fewer [some (.ref 31), some (.int (zI r101)), some (.int (zI (1 - x2))), none, none, none, none, none, none] ⟨rfl, rfl, rfl, trivial⟩ H
              · replace H := H.2 z95
                refine fx_iconst d_MO_inBy_189 ?_
                refine fx_goto (n := 194) d_MO_inBy_190 ?_
                refine fx_callV (M' := M_MO_need) (B' := (0, 0)) (vs := [.int (zI 1)]) (rest := []) (c1 := 0) (s1 := 0) (n := 197) d_MO_inBy_194 ca_MO_inBy_273 (at_31 (h := _) hS86) rfl rfl rfl ⟨by decide, by decide⟩ (Nat.le_of_ble_eq_true rfl) (Or.inl rfl) (fx_Mt.mono H fun v h102 hv => ?_)
                obtain ⟨r104, rfl, e103, H⟩ := hv
                have hS102 := e103.trans hS86
                show fx_V l M_MO_inBy (0, 0) Q 0 0 197 [some (.ref 31), some (.int (zI x1)), some (.int (zI x2)), some (.int (zI 0)), some (.int (zI r82)), some (.int (zI r85)), some (.int (zI r88)), none, none] [.int (zI r104)] h102
                refine fx_pop d_MO_inBy_197 rfl ?_
                refine fx_aload_n (i := 0) d_MO_inBy_198 rfl rfl ?_
                refine fx_iload_n (i := 3) d_MO_inBy_199 rfl rfl ?_
                refine fx_iload d_MO_inBy_200 rfl ?_
                refine fx_iload d_MO_inBy_202 rfl ?_
                refine fx_iadd d_MO_inBy_204 ?_
                refine fx_iload_n (i := 2) d_MO_inBy_205 rfl rfl ?_
                refine fx_callV (M' := M_MO_paint) (B' := (0, 0)) (vs := [.int (zI 0), .int (zI (r82 + r88)), .int (zI x2)]) (rest := []) (c1 := 0) (s1 := 0) (n := 209) d_MO_inBy_206 ca_MO_inBy_301 (at_31 (h := _) hS102) rfl rfl rfl ⟨by decide, by decide⟩ (Nat.le_of_ble_eq_true rfl) (Or.inl rfl) (fx_Mt.mono H fun v h105 hv => ?_)
                obtain ⟨r107, rfl, e106, H⟩ := hv
                have hS105 := e106.trans hS102
                show fx_V l M_MO_inBy (0, 0) Q 0 0 209 [some (.ref 31), some (.int (zI x1)), some (.int (zI x2)), some (.int (zI 0)), some (.int (zI r82)), some (.int (zI r85)), some (.int (zI r88)), none, none] [.int (zI r107)] h105
                refine fx_istore_n (i := 1) (ls2 := [some (.ref 31), some (.int (zI r107)), some (.int (zI x2)), some (.int (zI 0)), some (.int (zI r82)), some (.int (zI r85)), some (.int (zI r88)), none, none]) d_MO_inBy_209 rfl (by decide) rfl ?_
                refine fx_iconst d_MO_inBy_210 ?_
                refine fx_iload_n (i := 2) d_MO_inBy_211 rfl rfl ?_
                refine fx_isub d_MO_inBy_212 ?_
                refine fx_istore_n (i := 2) (ls2 := [some (.ref 31), some (.int (zI r107)), some (.int (zI (1 - x2))), some (.int (zI 0)), some (.int (zI r82)), some (.int (zI r85)), some (.int (zI r88)), none, none]) d_MO_inBy_213 rfl (by decide) rfl ?_
                refine fx_goto (n := 4) d_MO_inBy_214 ?_
                exact fx_fewer [some (.ref 31), some (.int (zI r107)), some (.int (zI (1 - x2))), none, none, none, none, none, none] ⟨rfl, rfl, rfl, trivial⟩ H
            · replace H := H.2 z93
              refine fx_aload_n (i := 0) d_MO_inBy_105 rfl rfl ?_
              refine fx_iload_n (i := 2) d_MO_inBy_106 rfl rfl ?_
              refine fx_callV (M' := M_MO_inRun) (B' := (0, 0)) (vs := [.int (zI x2)]) (rest := []) (c1 := 0) (s1 := 0) (n := 110) d_MO_inBy_107 ca_MO_inBy_298 (at_31 (h := _) hS86) rfl rfl rfl ⟨by decide, by decide⟩ (Nat.le_of_ble_eq_true rfl) (Or.inl rfl) (fx_Mt.mono H fun v h108 hv => ?_)
              obtain ⟨r110, rfl, e109, H⟩ := hv
              have hS108 := e109.trans hS86
              show fx_V l M_MO_inBy (0, 0) Q 0 0 110 [some (.ref 31), some (.int (zI x1)), some (.int (zI x2)), some (.int (zI 0)), some (.int (zI r82)), some (.int (zI r85)), some (.int (zI r88)), none, none] [.int (zI r110)] h108
              refine fx_istore (ls2 := [some (.ref 31), some (.int (zI x1)), some (.int (zI x2)), some (.int (zI 0)), some (.int (zI r82)), some (.int (zI r85)), some (.int (zI r88)), some (.int (zI r110)), none]) d_MO_inBy_110 (by decide) rfl ?_
              refine fx_aload_n (i := 0) d_MO_inBy_112 rfl rfl ?_
              refine fx_iconst d_MO_inBy_113 ?_
              refine fx_iload_n (i := 2) d_MO_inBy_114 rfl rfl ?_
              refine fx_isub d_MO_inBy_115 ?_
              refine fx_callV (M' := M_MO_inRun) (B' := (0, 0)) (vs := [.int (zI (1 - x2))]) (rest := []) (c1 := 0) (s1 := 0) (n := 119) d_MO_inBy_116 ca_MO_inBy_298 (at_31 (h := _) hS108) rfl rfl rfl ⟨by decide, by decide⟩ (Nat.le_of_ble_eq_true rfl) (Or.inl rfl) (fx_Mt.mono H fun v h111 hv => ?_)
              obtain ⟨r113, rfl, e112, H⟩ := hv
              have hS111 := e112.trans hS108
              show fx_V l M_MO_inBy (0, 0) Q 0 0 119 [some (.ref 31), some (.int (zI x1)), some (.int (zI x2)), some (.int (zI 0)), some (.int (zI r82)), some (.int (zI r85)), some (.int (zI r88)), some (.int (zI r110)), none] [.int (zI r113)] h111
              refine fx_istore (ls2 := [some (.ref 31), some (.int (zI x1)), some (.int (zI x2)), some (.int (zI 0)), some (.int (zI r82)), some (.int (zI r85)), some (.int (zI r88)), some (.int (zI r110)), some (.int (zI r113))]) d_MO_inBy_119 (by decide) rfl ?_
              refine fx_aload_n (i := 0) d_MO_inBy_121 rfl rfl ?_
              refine fx_iload d_MO_inBy_122 rfl ?_
              refine fx_iload d_MO_inBy_124 rfl ?_
              refine fx_iadd d_MO_inBy_126 ?_
              obtain ⟨hz114, H⟩ := H
              refine fx_if_le (t := 134) (n := 130) d_MO_inBy_127 hz114 (fun z115 => ?_) (fun z115 => ?_)
              · replace H := H.1 z115
                refine fx_iconst d_MO_inBy_134 ?_
                refine fx_callV (M' := M_MO_need) (B' := (0, 0)) (vs := [.int (zI 0)]) (rest := []) (c1 := 0) (s1 := 0) (n := 138) d_MO_inBy_135 ca_MO_inBy_273 (at_31 (h := _) hS111) rfl rfl rfl ⟨by decide, by decide⟩ (Nat.le_of_ble_eq_true rfl) (Or.inl rfl) (fx_Mt.mono H fun v h116 hv => ?_)
                obtain ⟨r118, rfl, e117, H⟩ := hv
                have hS116 := e117.trans hS111
                show fx_V l M_MO_inBy (0, 0) Q 0 0 138 [some (.ref 31), some (.int (zI x1)), some (.int (zI x2)), some (.int (zI 0)), some (.int (zI r82)), some (.int (zI r85)), some (.int (zI r88)), some (.int (zI r110)), some (.int (zI r113))] [.int (zI r118)] h116
                refine fx_pop d_MO_inBy_138 rfl ?_
                refine fx_aload_n (i := 0) d_MO_inBy_139 rfl rfl ?_
                refine fx_getI d_MO_inBy_140 lk_MO_264 (at_31 (h := _) hS116) rfl ?_
                obtain ⟨hz119, H⟩ := H
                refine fx_if_ne (t := 176) (n := 146) d_MO_inBy_143 hz119 (fun z120 => ?_) (fun z120 => ?_)
                · replace H := H.1 z120
                  refine fx_goto (n := 214) d_MO_inBy_176 ?_
                  refine fx_goto (n := 4) d_MO_inBy_214 ?_
                  exact fx_fewer [some (.ref 31), some (.int (zI x1)), some (.int (zI x2)), none, none, none, none, none, none] ⟨rfl, rfl, rfl, trivial⟩ H
                · replace H := H.2 z120
                  refine fx_aload_n (i := 0) d_MO_inBy_146 rfl rfl ?_
                  refine fx_iload_n (i := 3) d_MO_inBy_147 rfl rfl ?_
                  refine fx_iload_n (i := 3) d_MO_inBy_148 rfl rfl ?_
                  refine fx_iload d_MO_inBy_149 rfl ?_
                  refine fx_iadd d_MO_inBy_151 ?_
                  refine fx_iload_n (i := 2) d_MO_inBy_152 rfl rfl ?_
                  refine fx_callV (M' := M_MO_paint) (B' := (0, 0)) (vs := [.int (zI 0), .int (zI (0 + r110)), .int (zI x2)]) (rest := []) (c1 := 0) (s1 := 0) (n := 156) d_MO_inBy_153 ca_MO_inBy_301 (at_31 (h := _) hS116) rfl rfl rfl ⟨by decide, by decide⟩ (Nat.le_of_ble_eq_true rfl) (Or.inl rfl) (fx_Mt.mono H fun v h121 hv => ?_)
                  obtain ⟨r123, rfl, e122, H⟩ := hv
                  have hS121 := e122.trans hS116
                  show fx_V l M_MO_inBy (0, 0) Q 0 0 156 [some (.ref 31), some (.int (zI x1)), some (.int (zI x2)), some (.int (zI 0)), some (.int (zI r82)), some (.int (zI r85)), some (.int (zI r88)), some (.int (zI r110)), some (.int (zI r113))] [.int (zI r123)] h121
                  refine fx_pop d_MO_inBy_156 rfl ?_
                  refine fx_aload_n (i := 0) d_MO_inBy_157 rfl rfl ?_
                  refine fx_iload_n (i := 3) d_MO_inBy_158 rfl rfl ?_
                  refine fx_iload d_MO_inBy_159 rfl ?_
                  refine fx_iadd d_MO_inBy_161 ?_
                  refine fx_iload_n (i := 3) d_MO_inBy_162 rfl rfl ?_
                  refine fx_iload d_MO_inBy_163 rfl ?_
                  refine fx_iadd d_MO_inBy_165 ?_
                  refine fx_iload d_MO_inBy_166 rfl ?_
                  refine fx_iadd d_MO_inBy_168 ?_
                  refine fx_iconst d_MO_inBy_169 ?_
                  refine fx_iload_n (i := 2) d_MO_inBy_170 rfl rfl ?_
                  refine fx_isub d_MO_inBy_171 ?_
                  refine fx_callV (M' := M_MO_paint) (B' := (0, 0)) (vs := [.int (zI (0 + r110)), .int (zI ((0 + r110) + r113)), .int (zI (1 - x2))]) (rest := []) (c1 := 0) (s1 := 0) (n := 175) d_MO_inBy_172 ca_MO_inBy_301 (at_31 (h := _) hS121) rfl rfl rfl ⟨by decide, by decide⟩ (Nat.le_of_ble_eq_true rfl) (Or.inl rfl) (fx_Mt.mono H fun v h124 hv => ?_)
                  obtain ⟨r126, rfl, e125, H⟩ := hv
                  have hS124 := e125.trans hS121
                  show fx_V l M_MO_inBy (0, 0) Q 0 0 175 [some (.ref 31), some (.int (zI x1)), some (.int (zI x2)), some (.int (zI 0)), some (.int (zI r82)), some (.int (zI r85)), some (.int (zI r88)), some (.int (zI r110)), some (.int (zI r113))] [.int (zI r126)] h124
                  refine fx_istore_n (i := 1) (ls2 := [some (.ref 31), some (.int (zI r126)), some (.int (zI x2)), some (.int (zI 0)), some (.int (zI r82)), some (.int (zI r85)), some (.int (zI r88)), some (.int (zI r110)), some (.int (zI r113))]) d_MO_inBy_175 rfl (by decide) rfl ?_
                  refine fx_goto (n := 214) d_MO_inBy_176 ?_
                  refine fx_goto (n := 4) d_MO_inBy_214 ?_
                  exact fx_fewer [some (.ref 31), some (.int (zI r126)), some (.int (zI x2)), none, none, none, none, none, none] ⟨rfl, rfl, rfl, trivial⟩ H
              · replace H := H.2 z115
                refine fx_iconst d_MO_inBy_130 ?_
                refine fx_goto (n := 135) d_MO_inBy_131 ?_
                refine fx_callV (M' := M_MO_need) (B' := (0, 0)) (vs := [.int (zI 1)]) (rest := []) (c1 := 0) (s1 := 0) (n := 138) d_MO_inBy_135 ca_MO_inBy_273 (at_31 (h := _) hS111) rfl rfl rfl ⟨by decide, by decide⟩ (Nat.le_of_ble_eq_true rfl) (Or.inl rfl) (fx_Mt.mono H fun v h127 hv => ?_)
                obtain ⟨r129, rfl, e128, H⟩ := hv
                have hS127 := e128.trans hS111
                show fx_V l M_MO_inBy (0, 0) Q 0 0 138 [some (.ref 31), some (.int (zI x1)), some (.int (zI x2)), some (.int (zI 0)), some (.int (zI r82)), some (.int (zI r85)), some (.int (zI r88)), some (.int (zI r110)), some (.int (zI r113))] [.int (zI r129)] h127
                refine fx_pop d_MO_inBy_138 rfl ?_
                refine fx_aload_n (i := 0) d_MO_inBy_139 rfl rfl ?_
                refine fx_getI d_MO_inBy_140 lk_MO_264 (at_31 (h := _) hS127) rfl ?_
                obtain ⟨hz130, H⟩ := H
                refine fx_if_ne (t := 176) (n := 146) d_MO_inBy_143 hz130 (fun z131 => ?_) (fun z131 => ?_)
                · replace H := H.1 z131
                  refine fx_goto (n := 214) d_MO_inBy_176 ?_
                  refine fx_goto (n := 4) d_MO_inBy_214 ?_
                  exact fx_fewer [some (.ref 31), some (.int (zI x1)), some (.int (zI x2)), none, none, none, none, none, none] ⟨rfl, rfl, rfl, trivial⟩ H
                · replace H := H.2 z131
                  refine fx_aload_n (i := 0) d_MO_inBy_146 rfl rfl ?_
                  refine fx_iload_n (i := 3) d_MO_inBy_147 rfl rfl ?_
                  refine fx_iload_n (i := 3) d_MO_inBy_148 rfl rfl ?_
                  refine fx_iload d_MO_inBy_149 rfl ?_
                  refine fx_iadd d_MO_inBy_151 ?_
                  refine fx_iload_n (i := 2) d_MO_inBy_152 rfl rfl ?_
                  refine fx_callV (M' := M_MO_paint) (B' := (0, 0)) (vs := [.int (zI 0), .int (zI (0 + r110)), .int (zI x2)]) (rest := []) (c1 := 0) (s1 := 0) (n := 156) d_MO_inBy_153 ca_MO_inBy_301 (at_31 (h := _) hS127) rfl rfl rfl ⟨by decide, by decide⟩ (Nat.le_of_ble_eq_true rfl) (Or.inl rfl) (fx_Mt.mono H fun v h132 hv => ?_)
                  obtain ⟨r134, rfl, e133, H⟩ := hv
                  have hS132 := e133.trans hS127
                  show fx_V l M_MO_inBy (0, 0) Q 0 0 156 [some (.ref 31), some (.int (zI x1)), some (.int (zI x2)), some (.int (zI 0)), some (.int (zI r82)), some (.int (zI r85)), some (.int (zI r88)), some (.int (zI r110)), some (.int (zI r113))] [.int (zI r134)] h132
                  refine fx_pop d_MO_inBy_156 rfl ?_
                  refine fx_aload_n (i := 0) d_MO_inBy_157 rfl rfl ?_
                  refine fx_iload_n (i := 3) d_MO_inBy_158 rfl rfl ?_
                  refine fx_iload d_MO_inBy_159 rfl ?_
                  refine fx_iadd d_MO_inBy_161 ?_
                  refine fx_iload_n (i := 3) d_MO_inBy_162 rfl rfl ?_
                  refine fx_iload d_MO_inBy_163 rfl ?_
                  refine fx_iadd d_MO_inBy_165 ?_
                  refine fx_iload d_MO_inBy_166 rfl ?_
                  refine fx_iadd d_MO_inBy_168 ?_
                  refine fx_iconst d_MO_inBy_169 ?_
                  refine fx_iload_n (i := 2) d_MO_inBy_170 rfl rfl ?_
                  refine fx_isub d_MO_inBy_171 ?_
                  refine fx_callV (M' := M_MO_paint) (B' := (0, 0)) (vs := [.int (zI (0 + r110)), .int (zI ((0 + r110) + r113)), .int (zI (1 - x2))]) (rest := []) (c1 := 0) (s1 := 0) (n := 175) d_MO_inBy_172 ca_MO_inBy_301 (at_31 (h := _) hS132) rfl rfl rfl ⟨by decide, by decide⟩ (Nat.le_of_ble_eq_true rfl) (Or.inl rfl) (fx_Mt.mono H fun v h135 hv => ?_)
                  obtain ⟨r137, rfl, e136, H⟩ := hv
                  have hS135 := e136.trans hS132
                  show fx_V l M_MO_inBy (0, 0) Q 0 0 175 [some (.ref 31), some (.int (zI x1)), some (.int (zI x2)), some (.int (zI 0)), some (.int (zI r82)), some (.int (zI r85)), some (.int (zI r88)), some (.int (zI r110)), some (.int (zI r113))] [.int (zI r137)] h135
                  refine fx_istore_n (i := 1) (ls2 := [some (.ref 31), some (.int (zI r137)), some (.int (zI x2)), some (.int (zI 0)), some (.int (zI r82)), some (.int (zI r85)), some (.int (zI r88)), some (.int (zI r110)), some (.int (zI r113))]) d_MO_inBy_175 rfl (by decide) rfl ?_
                  refine fx_goto (n := 214) d_MO_inBy_176 ?_
                  refine fx_goto (n := 4) d_MO_inBy_214 ?_
                  exact fx_fewer [some (.ref 31), some (.int (zI r137)), some (.int (zI x2)), none, none, none, none, none, none] ⟨rfl, rfl, rfl, trivial⟩ H
          · replace H := H.2 z92
            refine fx_aload_n (i := 0) d_MO_inBy_67 rfl rfl ?_
            refine fx_iload d_MO_inBy_68 rfl ?_
            refine fx_aload_n (i := 0) d_MO_inBy_70 rfl rfl ?_
            refine fx_getI d_MO_inBy_71 lk_MO_131 (at_31 (h := _) hS86) rfl ?_
            obtain ⟨hz138, H⟩ := H
            obtain ⟨hz139, H⟩ := H
            refine fx_icmp_ge (t := 81) (n := 77) d_MO_inBy_74 hz138 hz139 (fun z140 => ?_) (fun z140 => ?_)
            · replace H := H.1 z140
              refine fx_iconst d_MO_inBy_81 ?_
              refine fx_callV (M' := M_MO_need) (B' := (0, 0)) (vs := [.int (zI 0)]) (rest := []) (c1 := 0) (s1 := 0) (n := 85) d_MO_inBy_82 ca_MO_inBy_273 (at_31 (h := _) hS86) rfl rfl rfl ⟨by decide, by decide⟩ (Nat.le_of_ble_eq_true rfl) (Or.inl rfl) (fx_Mt.mono H fun v h141 hv => ?_)
              obtain ⟨r143, rfl, e142, H⟩ := hv
              have hS141 := e142.trans hS86
              show fx_V l M_MO_inBy (0, 0) Q 0 0 85 [some (.ref 31), some (.int (zI x1)), some (.int (zI x2)), some (.int (zI 0)), some (.int (zI r82)), some (.int (zI r85)), some (.int (zI r88)), none, none] [.int (zI r143)] h141
              refine fx_pop d_MO_inBy_85 rfl ?_
              refine fx_aload_n (i := 0) d_MO_inBy_86 rfl rfl ?_
              refine fx_iload_n (i := 3) d_MO_inBy_87 rfl rfl ?_
              refine fx_iload d_MO_inBy_88 rfl ?_
              refine fx_iload_n (i := 2) d_MO_inBy_90 rfl rfl ?_
              refine fx_callV (M' := M_MO_paint) (B' := (0, 0)) (vs := [.int (zI 0), .int (zI r85), .int (zI x2)]) (rest := []) (c1 := 0) (s1 := 0) (n := 94) d_MO_inBy_91 ca_MO_inBy_301 (at_31 (h := _) hS141) rfl rfl rfl ⟨by decide, by decide⟩ (Nat.le_of_ble_eq_true rfl) (Or.inl rfl) (fx_Mt.mono H fun v h144 hv => ?_)
              obtain ⟨r146, rfl, e145, H⟩ := hv
              have hS144 := e145.trans hS141
              show fx_V l M_MO_inBy (0, 0) Q 0 0 94 [some (.ref 31), some (.int (zI x1)), some (.int (zI x2)), some (.int (zI 0)), some (.int (zI r82)), some (.int (zI r85)), some (.int (zI r88)), none, none] [.int (zI r146)] h144
              refine fx_istore_n (i := 1) (ls2 := [some (.ref 31), some (.int (zI r146)), some (.int (zI x2)), some (.int (zI 0)), some (.int (zI r82)), some (.int (zI r85)), some (.int (zI r88)), none, none]) d_MO_inBy_94 rfl (by decide) rfl ?_
              refine fx_goto (n := 214) d_MO_inBy_95 ?_
              refine fx_goto (n := 4) d_MO_inBy_214 ?_
              exact fx_fewer [some (.ref 31), some (.int (zI r146)), some (.int (zI x2)), none, none, none, none, none, none] ⟨rfl, rfl, rfl, trivial⟩ H
            · replace H := H.2 z140
              refine fx_iconst d_MO_inBy_77 ?_
              refine fx_goto (n := 82) d_MO_inBy_78 ?_
              refine fx_callV (M' := M_MO_need) (B' := (0, 0)) (vs := [.int (zI 1)]) (rest := []) (c1 := 0) (s1 := 0) (n := 85) d_MO_inBy_82 ca_MO_inBy_273 (at_31 (h := _) hS86) rfl rfl rfl ⟨by decide, by decide⟩ (Nat.le_of_ble_eq_true rfl) (Or.inl rfl) (fx_Mt.mono H fun v h147 hv => ?_)
              obtain ⟨r149, rfl, e148, H⟩ := hv
              have hS147 := e148.trans hS86
              show fx_V l M_MO_inBy (0, 0) Q 0 0 85 [some (.ref 31), some (.int (zI x1)), some (.int (zI x2)), some (.int (zI 0)), some (.int (zI r82)), some (.int (zI r85)), some (.int (zI r88)), none, none] [.int (zI r149)] h147
              refine fx_pop d_MO_inBy_85 rfl ?_
              refine fx_aload_n (i := 0) d_MO_inBy_86 rfl rfl ?_
              refine fx_iload_n (i := 3) d_MO_inBy_87 rfl rfl ?_
              refine fx_iload d_MO_inBy_88 rfl ?_
              refine fx_iload_n (i := 2) d_MO_inBy_90 rfl rfl ?_
              refine fx_callV (M' := M_MO_paint) (B' := (0, 0)) (vs := [.int (zI 0), .int (zI r85), .int (zI x2)]) (rest := []) (c1 := 0) (s1 := 0) (n := 94) d_MO_inBy_91 ca_MO_inBy_301 (at_31 (h := _) hS147) rfl rfl rfl ⟨by decide, by decide⟩ (Nat.le_of_ble_eq_true rfl) (Or.inl rfl) (fx_Mt.mono H fun v h150 hv => ?_)
              obtain ⟨r152, rfl, e151, H⟩ := hv
              have hS150 := e151.trans hS147
              show fx_V l M_MO_inBy (0, 0) Q 0 0 94 [some (.ref 31), some (.int (zI x1)), some (.int (zI x2)), some (.int (zI 0)), some (.int (zI r82)), some (.int (zI r85)), some (.int (zI r88)), none, none] [.int (zI r152)] h150
              refine fx_istore_n (i := 1) (ls2 := [some (.ref 31), some (.int (zI r152)), some (.int (zI x2)), some (.int (zI 0)), some (.int (zI r82)), some (.int (zI r85)), some (.int (zI r88)), none, none]) d_MO_inBy_94 rfl (by decide) rfl ?_
              refine fx_goto (n := 214) d_MO_inBy_95 ?_
              refine fx_goto (n := 4) d_MO_inBy_214 ?_
              exact fx_fewer [some (.ref 31), some (.int (zI r152)), some (.int (zI x2)), none, none, none, none, none, none] ⟨rfl, rfl, rfl, trivial⟩ H
        · replace H := H.2 z90
          exact fx_end none ⟨rfl, d_MO_inBy_59⟩ (Nat.le_refl _) (Nat.le_refl _) rfl H

set_option maxRecDepth 100000 in
set_option maxHeartbeats 4000000 in
theorem e_MO_inSign {l : Launch} {Q : Option Value → fx_H → Prop} {h : fx_H}    {a : Nat → Nat} {pp dd : Nat} (hS : h.1 = fx_S0 a pp dd) 
    (H : fx_Mt l M_MO_inBit (0, 0) [.ref 31] h (fun v h1 => ∃ r3 : Int, v = some (.int (zI r3)) ∧ h1.1 = h.1 ∧ zR r3 ∧ ((¬ r3 = 1 → fx_Mt l M_MO_inBit (0, 0) [.ref 31] h1 (fun v h6 => ∃ r8 : Int, v = some (.int (zI r8)) ∧ h6.1 = h1.1 ∧ zR r8 ∧ ((¬ r8 = 1 → fx_Mt l M_MO_inBit (0, 0) [.ref 31] h6 (fun v h11 => ∃ r13 : Int, v = some (.int (zI r13)) ∧ h11.1 = h6.1 ∧ zR r13 ∧ ((¬ r13 = 1 → fx_Mt l M_MO_inBit (0, 0) [.ref 31] h11 (fun v h16 => ∃ r18 : Int, v = some (.int (zI r18)) ∧ h16.1 = h11.1 ∧ zR r18 ∧ ((¬ r18 = 1 → fx_Mt l M_MO_inBit (0, 0) [.ref 31] h16 (fun v h21 => ∃ r23 : Int, v = some (.int (zI r23)) ∧ h21.1 = h16.1 ∧ zR r23 ∧ ((¬ r23 = 1 → fx_Mt l M_MO_inBit (0, 0) [.ref 31] h21 (fun v h26 => ∃ r28 : Int, v = some (.int (zI r28)) ∧ h26.1 = h21.1 ∧ zR r28 ∧ ((¬ r28 = 1 → fx_Mt l M_MO_need (0, 0) [.ref 31, .int (zI 0)] h26 (fun v h31 => ∃ r33 : Int, v = some (.int (zI r33)) ∧ h31.1 = h26.1 ∧ fx_Mt l M_MO_inBit (0, 0) [.ref 31] h31 (fun v h34 => ∃ r36 : Int, v = some (.int (zI r36)) ∧ h34.1 = h31.1 ∧ zR r36 ∧ ((¬ r36 = 1 → Q (some (.int (zI (-3)))) h34) ∧ (r36 = 1 → Q (some (.int (zI 3))) h34))))) ∧ (r28 = 1 → fx_Mt l M_MO_need (0, 0) [.ref 31, .int (zI 1)] h26 (fun v h39 => ∃ r41 : Int, v = some (.int (zI r41)) ∧ h39.1 = h26.1 ∧ fx_Mt l M_MO_inBit (0, 0) [.ref 31] h39 (fun v h42 => ∃ r44 : Int, v = some (.int (zI r44)) ∧ h42.1 = h39.1 ∧ zR r44 ∧ ((¬ r44 = 1 → Q (some (.int (zI (-3)))) h42) ∧ (r44 = 1 → Q (some (.int (zI 3))) h42)))))))) ∧ (r23 = 1 → fx_Mt l M_MO_inBit (0, 0) [.ref 31] h21 (fun v h47 => ∃ r49 : Int, v = some (.int (zI r49)) ∧ h47.1 = h21.1 ∧ zR r49 ∧ ((¬ r49 = 1 → Q (some (.int (zI (-2)))) h47) ∧ (r49 = 1 → Q (some (.int (zI 2))) h47))))))) ∧ (r18 = 1 → Q (some (.int (zI 10))) h16)))) ∧ (r13 = 1 → Q (some (.int (zI 11))) h11)))) ∧ (r8 = 1 → fx_Mt l M_MO_inBit (0, 0) [.ref 31] h6 (fun v h52 => ∃ r54 : Int, v = some (.int (zI r54)) ∧ h52.1 = h6.1 ∧ zR r54 ∧ ((¬ r54 = 1 → Q (some (.int (zI (-1)))) h52) ∧ (r54 = 1 → Q (some (.int (zI 1))) h52))))))) ∧ (r3 = 1 → Q (some (.int (zI 0))) h1)))) :
    fx_Mt l M_MO_inSign (0, 0) [.ref 31] h Q := by
  refine fx_entry (ls := [some (.ref 31)]) (by decide) (Nat.le_of_ble_eq_true rfl) rfl ?_
  refine fx_aload_n (i := 0) d_MO_inSign_0 rfl rfl ?_
  refine fx_callV (M' := M_MO_inBit) (B' := (0, 0)) (vs := []) (rest := []) (c1 := 0) (s1 := 0) (n := 4) d_MO_inSign_1 ca_MO_inSign_277 (at_31 (h := _) hS) rfl rfl rfl ⟨by decide, by decide⟩ (Nat.le_of_ble_eq_true rfl) (Or.inl rfl) (fx_Mt.mono H fun v h1 hv => ?_)
  obtain ⟨r3, rfl, e2, H⟩ := hv
  have hS1 := e2.trans hS
  show fx_V l M_MO_inSign (0, 0) Q 0 0 4 [some (.ref 31)] [.int (zI r3)] h1
  refine fx_iconst d_MO_inSign_4 ?_
  obtain ⟨hz4, H⟩ := H
  refine fx_icmp_ne (t := 10) (n := 8) d_MO_inSign_5 hz4 (show zR 1 by decide) (fun z5 => ?_) (fun z5 => ?_)
  · replace H := H.1 z5
    refine fx_aload_n (i := 0) d_MO_inSign_10 rfl rfl ?_
    refine fx_callV (M' := M_MO_inBit) (B' := (0, 0)) (vs := []) (rest := []) (c1 := 0) (s1 := 0) (n := 14) d_MO_inSign_11 ca_MO_inSign_277 (at_31 (h := _) hS1) rfl rfl rfl ⟨by decide, by decide⟩ (Nat.le_of_ble_eq_true rfl) (Or.inl rfl) (fx_Mt.mono H fun v h6 hv => ?_)
    obtain ⟨r8, rfl, e7, H⟩ := hv
    have hS6 := e7.trans hS1
    show fx_V l M_MO_inSign (0, 0) Q 0 0 14 [some (.ref 31)] [.int (zI r8)] h6
    refine fx_iconst d_MO_inSign_14 ?_
    obtain ⟨hz9, H⟩ := H
    refine fx_icmp_ne (t := 32) (n := 18) d_MO_inSign_15 hz9 (show zR 1 by decide) (fun z10 => ?_) (fun z10 => ?_)
    · replace H := H.1 z10
      refine fx_aload_n (i := 0) d_MO_inSign_32 rfl rfl ?_
      refine fx_callV (M' := M_MO_inBit) (B' := (0, 0)) (vs := []) (rest := []) (c1 := 0) (s1 := 0) (n := 36) d_MO_inSign_33 ca_MO_inSign_277 (at_31 (h := _) hS6) rfl rfl rfl ⟨by decide, by decide⟩ (Nat.le_of_ble_eq_true rfl) (Or.inl rfl) (fx_Mt.mono H fun v h11 hv => ?_)
      obtain ⟨r13, rfl, e12, H⟩ := hv
      have hS11 := e12.trans hS6
      show fx_V l M_MO_inSign (0, 0) Q 0 0 36 [some (.ref 31)] [.int (zI r13)] h11
      refine fx_iconst d_MO_inSign_36 ?_
      obtain ⟨hz14, H⟩ := H
      refine fx_icmp_ne (t := 43) (n := 40) d_MO_inSign_37 hz14 (show zR 1 by decide) (fun z15 => ?_) (fun z15 => ?_)
      · replace H := H.1 z15
        refine fx_aload_n (i := 0) d_MO_inSign_43 rfl rfl ?_
        refine fx_callV (M' := M_MO_inBit) (B' := (0, 0)) (vs := []) (rest := []) (c1 := 0) (s1 := 0) (n := 47) d_MO_inSign_44 ca_MO_inSign_277 (at_31 (h := _) hS11) rfl rfl rfl ⟨by decide, by decide⟩ (Nat.le_of_ble_eq_true rfl) (Or.inl rfl) (fx_Mt.mono H fun v h16 hv => ?_)
        obtain ⟨r18, rfl, e17, H⟩ := hv
        have hS16 := e17.trans hS11
        show fx_V l M_MO_inSign (0, 0) Q 0 0 47 [some (.ref 31)] [.int (zI r18)] h16
        refine fx_iconst d_MO_inSign_47 ?_
        obtain ⟨hz19, H⟩ := H
        refine fx_icmp_ne (t := 54) (n := 51) d_MO_inSign_48 hz19 (show zR 1 by decide) (fun z20 => ?_) (fun z20 => ?_)
        · replace H := H.1 z20
          refine fx_aload_n (i := 0) d_MO_inSign_54 rfl rfl ?_
          refine fx_callV (M' := M_MO_inBit) (B' := (0, 0)) (vs := []) (rest := []) (c1 := 0) (s1 := 0) (n := 58) d_MO_inSign_55 ca_MO_inSign_277 (at_31 (h := _) hS16) rfl rfl rfl ⟨by decide, by decide⟩ (Nat.le_of_ble_eq_true rfl) (Or.inl rfl) (fx_Mt.mono H fun v h21 hv => ?_)
          obtain ⟨r23, rfl, e22, H⟩ := hv
          have hS21 := e22.trans hS16
          show fx_V l M_MO_inSign (0, 0) Q 0 0 58 [some (.ref 31)] [.int (zI r23)] h21
          refine fx_iconst d_MO_inSign_58 ?_
          obtain ⟨hz24, H⟩ := H
          refine fx_icmp_ne (t := 77) (n := 62) d_MO_inSign_59 hz24 (show zR 1 by decide) (fun z25 => ?_) (fun z25 => ?_)
          · replace H := H.1 z25
            refine fx_aload_n (i := 0) d_MO_inSign_77 rfl rfl ?_
            refine fx_aload_n (i := 0) d_MO_inSign_78 rfl rfl ?_
            refine fx_callV (M' := M_MO_inBit) (B' := (0, 0)) (vs := []) (rest := [.ref 31]) (c1 := 0) (s1 := 0) (n := 82) d_MO_inSign_79 ca_MO_inSign_277 (at_31 (h := _) hS21) rfl rfl rfl ⟨by decide, by decide⟩ (Nat.le_of_ble_eq_true rfl) (Or.inl rfl) (fx_Mt.mono H fun v h26 hv => ?_)
            obtain ⟨r28, rfl, e27, H⟩ := hv
            have hS26 := e27.trans hS21
            show fx_V l M_MO_inSign (0, 0) Q 0 0 82 [some (.ref 31)] [.int (zI r28), .ref 31] h26
            refine fx_iconst d_MO_inSign_82 ?_
            obtain ⟨hz29, H⟩ := H
            refine fx_icmp_ne (t := 90) (n := 86) d_MO_inSign_83 hz29 (show zR 1 by decide) (fun z30 => ?_) (fun z30 => ?_)
            · replace H := H.1 z30
              refine fx_iconst d_MO_inSign_90 ?_
              refine fx_callV (M' := M_MO_need) (B' := (0, 0)) (vs := [.int (zI 0)]) (rest := []) (c1 := 0) (s1 := 0) (n := 94) d_MO_inSign_91 ca_MO_inSign_273 (at_31 (h := _) hS26) rfl rfl rfl ⟨by decide, by decide⟩ (Nat.le_of_ble_eq_true rfl) (Or.inl rfl) (fx_Mt.mono H fun v h31 hv => ?_)
              obtain ⟨r33, rfl, e32, H⟩ := hv
              have hS31 := e32.trans hS26
              show fx_V l M_MO_inSign (0, 0) Q 0 0 94 [some (.ref 31)] [.int (zI r33)] h31
              refine fx_pop d_MO_inSign_94 rfl ?_
              refine fx_aload_n (i := 0) d_MO_inSign_95 rfl rfl ?_
              refine fx_callV (M' := M_MO_inBit) (B' := (0, 0)) (vs := []) (rest := []) (c1 := 0) (s1 := 0) (n := 99) d_MO_inSign_96 ca_MO_inSign_277 (at_31 (h := _) hS31) rfl rfl rfl ⟨by decide, by decide⟩ (Nat.le_of_ble_eq_true rfl) (Or.inl rfl) (fx_Mt.mono H fun v h34 hv => ?_)
              obtain ⟨r36, rfl, e35, H⟩ := hv
              have hS34 := e35.trans hS31
              show fx_V l M_MO_inSign (0, 0) Q 0 0 99 [some (.ref 31)] [.int (zI r36)] h34
              refine fx_iconst d_MO_inSign_99 ?_
              obtain ⟨hz37, H⟩ := H
              refine fx_icmp_ne (t := 107) (n := 103) d_MO_inSign_100 hz37 (show zR 1 by decide) (fun z38 => ?_) (fun z38 => ?_)
              · replace H := H.1 z38
                refine fx_bipush (v := -3) d_MO_inSign_107 rfl ?_
                exact fx_end (some (.int (zI (-3)))) ⟨⟨_, rfl, rfl⟩, d_MO_inSign_109⟩ (Nat.le_refl _) (Nat.le_refl _) rfl H
              · replace H := H.2 z38
                refine fx_iconst d_MO_inSign_103 ?_
                refine fx_goto (n := 109) d_MO_inSign_104 ?_
                exact fx_end (some (.int (zI 3))) ⟨⟨_, rfl, rfl⟩, d_MO_inSign_109⟩ (Nat.le_refl _) (Nat.le_refl _) rfl H
            · replace H := H.2 z30
              refine fx_iconst d_MO_inSign_86 ?_
              refine fx_goto (n := 91) d_MO_inSign_87 ?_
              refine fx_callV (M' := M_MO_need) (B' := (0, 0)) (vs := [.int (zI 1)]) (rest := []) (c1 := 0) (s1 := 0) (n := 94) d_MO_inSign_91 ca_MO_inSign_273 (at_31 (h := _) hS26) rfl rfl rfl ⟨by decide, by decide⟩ (Nat.le_of_ble_eq_true rfl) (Or.inl rfl) (fx_Mt.mono H fun v h39 hv => ?_)
              obtain ⟨r41, rfl, e40, H⟩ := hv
              have hS39 := e40.trans hS26
              show fx_V l M_MO_inSign (0, 0) Q 0 0 94 [some (.ref 31)] [.int (zI r41)] h39
              refine fx_pop d_MO_inSign_94 rfl ?_
              refine fx_aload_n (i := 0) d_MO_inSign_95 rfl rfl ?_
              refine fx_callV (M' := M_MO_inBit) (B' := (0, 0)) (vs := []) (rest := []) (c1 := 0) (s1 := 0) (n := 99) d_MO_inSign_96 ca_MO_inSign_277 (at_31 (h := _) hS39) rfl rfl rfl ⟨by decide, by decide⟩ (Nat.le_of_ble_eq_true rfl) (Or.inl rfl) (fx_Mt.mono H fun v h42 hv => ?_)
              obtain ⟨r44, rfl, e43, H⟩ := hv
              have hS42 := e43.trans hS39
              show fx_V l M_MO_inSign (0, 0) Q 0 0 99 [some (.ref 31)] [.int (zI r44)] h42
              refine fx_iconst d_MO_inSign_99 ?_
              obtain ⟨hz45, H⟩ := H
              refine fx_icmp_ne (t := 107) (n := 103) d_MO_inSign_100 hz45 (show zR 1 by decide) (fun z46 => ?_) (fun z46 => ?_)
              · replace H := H.1 z46
                refine fx_bipush (v := -3) d_MO_inSign_107 rfl ?_
                exact fx_end (some (.int (zI (-3)))) ⟨⟨_, rfl, rfl⟩, d_MO_inSign_109⟩ (Nat.le_refl _) (Nat.le_refl _) rfl H
              · replace H := H.2 z46
                refine fx_iconst d_MO_inSign_103 ?_
                refine fx_goto (n := 109) d_MO_inSign_104 ?_
                exact fx_end (some (.int (zI 3))) ⟨⟨_, rfl, rfl⟩, d_MO_inSign_109⟩ (Nat.le_refl _) (Nat.le_refl _) rfl H
          · replace H := H.2 z25
            refine fx_aload_n (i := 0) d_MO_inSign_62 rfl rfl ?_
            refine fx_callV (M' := M_MO_inBit) (B' := (0, 0)) (vs := []) (rest := []) (c1 := 0) (s1 := 0) (n := 66) d_MO_inSign_63 ca_MO_inSign_277 (at_31 (h := _) hS21) rfl rfl rfl ⟨by decide, by decide⟩ (Nat.le_of_ble_eq_true rfl) (Or.inl rfl) (fx_Mt.mono H fun v h47 hv => ?_)
            obtain ⟨r49, rfl, e48, H⟩ := hv
            have hS47 := e48.trans hS21
            show fx_V l M_MO_inSign (0, 0) Q 0 0 66 [some (.ref 31)] [.int (zI r49)] h47
            refine fx_iconst d_MO_inSign_66 ?_
            obtain ⟨hz50, H⟩ := H
            refine fx_icmp_ne (t := 74) (n := 70) d_MO_inSign_67 hz50 (show zR 1 by decide) (fun z51 => ?_) (fun z51 => ?_)
            · replace H := H.1 z51
              refine fx_bipush (v := -2) d_MO_inSign_74 rfl ?_
              exact fx_end (some (.int (zI (-2)))) ⟨⟨_, rfl, rfl⟩, d_MO_inSign_76⟩ (Nat.le_refl _) (Nat.le_refl _) rfl H
            · replace H := H.2 z51
              refine fx_iconst d_MO_inSign_70 ?_
              refine fx_goto (n := 76) d_MO_inSign_71 ?_
              exact fx_end (some (.int (zI 2))) ⟨⟨_, rfl, rfl⟩, d_MO_inSign_76⟩ (Nat.le_refl _) (Nat.le_refl _) rfl H
        · replace H := H.2 z20
          refine fx_bipush (v := 10) d_MO_inSign_51 rfl ?_
          exact fx_end (some (.int (zI 10))) ⟨⟨_, rfl, rfl⟩, d_MO_inSign_53⟩ (Nat.le_refl _) (Nat.le_refl _) rfl H
      · replace H := H.2 z15
        refine fx_bipush (v := 11) d_MO_inSign_40 rfl ?_
        exact fx_end (some (.int (zI 11))) ⟨⟨_, rfl, rfl⟩, d_MO_inSign_42⟩ (Nat.le_refl _) (Nat.le_refl _) rfl H
    · replace H := H.2 z10
      refine fx_aload_n (i := 0) d_MO_inSign_18 rfl rfl ?_
      refine fx_callV (M' := M_MO_inBit) (B' := (0, 0)) (vs := []) (rest := []) (c1 := 0) (s1 := 0) (n := 22) d_MO_inSign_19 ca_MO_inSign_277 (at_31 (h := _) hS6) rfl rfl rfl ⟨by decide, by decide⟩ (Nat.le_of_ble_eq_true rfl) (Or.inl rfl) (fx_Mt.mono H fun v h52 hv => ?_)
      obtain ⟨r54, rfl, e53, H⟩ := hv
      have hS52 := e53.trans hS6
      show fx_V l M_MO_inSign (0, 0) Q 0 0 22 [some (.ref 31)] [.int (zI r54)] h52
      refine fx_iconst d_MO_inSign_22 ?_
      obtain ⟨hz55, H⟩ := H
      refine fx_icmp_ne (t := 30) (n := 26) d_MO_inSign_23 hz55 (show zR 1 by decide) (fun z56 => ?_) (fun z56 => ?_)
      · replace H := H.1 z56
        refine fx_iconst d_MO_inSign_30 ?_
        exact fx_end (some (.int (zI (-1)))) ⟨⟨_, rfl, rfl⟩, d_MO_inSign_31⟩ (Nat.le_refl _) (Nat.le_refl _) rfl H
      · replace H := H.2 z56
        refine fx_iconst d_MO_inSign_26 ?_
        refine fx_goto (n := 31) d_MO_inSign_27 ?_
        exact fx_end (some (.int (zI 1))) ⟨⟨_, rfl, rfl⟩, d_MO_inSign_31⟩ (Nat.le_refl _) (Nat.le_refl _) rfl H
  · replace H := H.2 z5
    refine fx_iconst d_MO_inSign_8 ?_
    exact fx_end (some (.int (zI 0))) ⟨⟨_, rfl, rfl⟩, d_MO_inSign_9⟩ (Nat.le_refl _) (Nat.le_refl _) rfl H

set_option maxRecDepth 100000 in
set_option maxHeartbeats 4000000 in
theorem e_MO_inRest {l : Launch} {Q : Option Value → fx_H → Prop} {h : fx_H}    {a : Nat → Nat} {pp dd : Nat} (hS : h.1 = fx_S0 a pp dd) 
    (H : zR ((h.2.1 31 21) - (h.2.1 31 20)) ∧ ((8 ≤ ((h.2.1 31 21) - (h.2.1 31 20)) → fx_Mt l M_MO_need (0, 0) [.ref 31, .int (zI 0)] h (fun v h3 => ∃ r5 : Int, v = some (.int (zI r5)) ∧ h3.1 = h.1 ∧ (fx_V l M_MO_inRest (0, 0) Q 0 0 24 [some (.ref 31)] [] h3))) ∧ (¬ (8 ≤ ((h.2.1 31 21) - (h.2.1 31 20))) → fx_Mt l M_MO_need (0, 0) [.ref 31, .int (zI 1)] h (fun v h6 => ∃ r8 : Int, v = some (.int (zI r8)) ∧ h6.1 = h.1 ∧ (fx_V l M_MO_inRest (0, 0) Q 0 0 24 [some (.ref 31)] [] h6))))) :
    fx_Mt l M_MO_inRest (0, 0) [.ref 31] h Q := by
  refine fx_entry (ls := [some (.ref 31)]) (by decide) (Nat.le_of_ble_eq_true rfl) rfl ?_
  refine fx_aload_n (i := 0) d_MO_inRest_0 rfl rfl ?_
  refine fx_aload_n (i := 0) d_MO_inRest_1 rfl rfl ?_
  refine fx_getI d_MO_inRest_2 lk_MO_270 (at_31 (h := _) hS) rfl ?_
  refine fx_aload_n (i := 0) d_MO_inRest_5 rfl rfl ?_
  refine fx_getI d_MO_inRest_6 lk_MO_267 (at_31 (h := _) hS) rfl ?_
  refine fx_isub d_MO_inRest_9 ?_
  refine fx_bipush (v := 8) d_MO_inRest_10 rfl ?_
  obtain ⟨hz1, H⟩ := H
  refine fx_icmp_ge (t := 19) (n := 15) d_MO_inRest_12 hz1 (show zR 8 by decide) (fun z2 => ?_) (fun z2 => ?_)
  · replace H := H.1 z2
    refine fx_iconst d_MO_inRest_19 ?_
    refine fx_callV (M' := M_MO_need) (B' := (0, 0)) (vs := [.int (zI 0)]) (rest := []) (c1 := 0) (s1 := 0) (n := 23) d_MO_inRest_20 ca_MO_inRest_273 (at_31 (h := _) hS) rfl rfl rfl ⟨by decide, by decide⟩ (Nat.le_of_ble_eq_true rfl) (Or.inl rfl) (fx_Mt.mono H fun v h3 hv => ?_)
    obtain ⟨r5, rfl, e4, H⟩ := hv
    have hS3 := e4.trans hS
    show fx_V l M_MO_inRest (0, 0) Q 0 0 23 [some (.ref 31)] [.int (zI r5)] h3
    refine fx_pop d_MO_inRest_23 rfl ?_
    exact H
  · replace H := H.2 z2
    refine fx_iconst d_MO_inRest_15 ?_
    refine fx_goto (n := 20) d_MO_inRest_16 ?_
    refine fx_callV (M' := M_MO_need) (B' := (0, 0)) (vs := [.int (zI 1)]) (rest := []) (c1 := 0) (s1 := 0) (n := 23) d_MO_inRest_20 ca_MO_inRest_273 (at_31 (h := _) hS) rfl rfl rfl ⟨by decide, by decide⟩ (Nat.le_of_ble_eq_true rfl) (Or.inl rfl) (fx_Mt.mono H fun v h6 hv => ?_)
    obtain ⟨r8, rfl, e7, H⟩ := hv
    have hS6 := e7.trans hS
    show fx_V l M_MO_inRest (0, 0) Q 0 0 23 [some (.ref 31)] [.int (zI r8)] h6
    refine fx_pop d_MO_inRest_23 rfl ?_
    exact H

set_option maxRecDepth 100000 in
set_option maxHeartbeats 4000000 in
theorem w_MO_inRest_24 {l : Launch} {Q : Option Value → fx_H → Prop} {h : fx_H}    {a : Nat → Nat} {pp dd : Nat} (hS : h.1 = fx_S0 a pp dd) 
    (H : zR (h.2.1 31 20) ∧ zR (h.2.1 31 21) ∧ (((h.2.1 31 21) ≤ (h.2.1 31 20) → Q none h) ∧ (¬ ((h.2.1 31 21) ≤ (h.2.1 31 20)) → zR (h.2.1 31 22) ∧ ((¬ (h.2.1 31 22) = 0 → Q none h) ∧ ((h.2.1 31 22) = 0 → fx_Mt l M_MO_inBit (0, 0) [.ref 31] h (fun v h6 => ∃ r8 : Int, v = some (.int (zI r8)) ∧ h6.1 = h.1 ∧ zR r8 ∧ ((¬ r8 = 0 → fx_Mt l M_MO_need (0, 0) [.ref 31, .int (zI 0)] h6 (fun v h11 => ∃ r13 : Int, v = some (.int (zI r13)) ∧ h11.1 = h6.1 ∧ (fx_V l M_MO_inRest (0, 0) Q 0 0 24 [some (.ref 31)] [] h11))) ∧ (r8 = 0 → fx_Mt l M_MO_need (0, 0) [.ref 31, .int (zI 1)] h6 (fun v h14 => ∃ r16 : Int, v = some (.int (zI r16)) ∧ h14.1 = h6.1 ∧ (fx_V l M_MO_inRest (0, 0) Q 0 0 24 [some (.ref 31)] [] h14)))))))))) :
    fx_V l M_MO_inRest (0, 0) Q 0 0 24 [some (.ref 31)] [] h := by
  refine fx_aload_n (i := 0) d_MO_inRest_24 rfl rfl ?_
  refine fx_getI d_MO_inRest_25 lk_MO_267 (at_31 (h := _) hS) rfl ?_
  refine fx_aload_n (i := 0) d_MO_inRest_28 rfl rfl ?_
  refine fx_getI d_MO_inRest_29 lk_MO_270 (at_31 (h := _) hS) rfl ?_
  obtain ⟨hz1, H⟩ := H
  obtain ⟨hz2, H⟩ := H
  refine fx_icmp_ge (t := 62) (n := 35) d_MO_inRest_32 hz1 hz2 (fun z3 => ?_) (fun z3 => ?_)
  · replace H := H.1 z3
    exact fx_end none ⟨rfl, d_MO_inRest_62⟩ (Nat.le_refl _) (Nat.le_refl _) rfl H
  · replace H := H.2 z3
    refine fx_aload_n (i := 0) d_MO_inRest_35 rfl rfl ?_
    refine fx_getI d_MO_inRest_36 lk_MO_264 (at_31 (h := _) hS) rfl ?_
    obtain ⟨hz4, H⟩ := H
    refine fx_if_ne (t := 62) (n := 42) d_MO_inRest_39 hz4 (fun z5 => ?_) (fun z5 => ?_)
    · replace H := H.1 z5
      exact fx_end none ⟨rfl, d_MO_inRest_62⟩ (Nat.le_refl _) (Nat.le_refl _) rfl H
    · replace H := H.2 z5
      refine fx_aload_n (i := 0) d_MO_inRest_42 rfl rfl ?_
      refine fx_aload_n (i := 0) d_MO_inRest_43 rfl rfl ?_
      refine fx_callV (M' := M_MO_inBit) (B' := (0, 0)) (vs := []) (rest := [.ref 31]) (c1 := 0) (s1 := 0) (n := 47) d_MO_inRest_44 ca_MO_inRest_277 (at_31 (h := _) hS) rfl rfl rfl ⟨by decide, by decide⟩ (Nat.le_of_ble_eq_true rfl) (Or.inl rfl) (fx_Mt.mono H fun v h6 hv => ?_)
      obtain ⟨r8, rfl, e7, H⟩ := hv
      have hS6 := e7.trans hS
      show fx_V l M_MO_inRest (0, 0) Q 0 0 47 [some (.ref 31)] [.int (zI r8), .ref 31] h6
      obtain ⟨hz9, H⟩ := H
      refine fx_if_ne (t := 54) (n := 50) d_MO_inRest_47 hz9 (fun z10 => ?_) (fun z10 => ?_)
      · replace H := H.1 z10
        refine fx_iconst d_MO_inRest_54 ?_
        refine fx_callV (M' := M_MO_need) (B' := (0, 0)) (vs := [.int (zI 0)]) (rest := []) (c1 := 0) (s1 := 0) (n := 58) d_MO_inRest_55 ca_MO_inRest_273 (at_31 (h := _) hS6) rfl rfl rfl ⟨by decide, by decide⟩ (Nat.le_of_ble_eq_true rfl) (Or.inl rfl) (fx_Mt.mono H fun v h11 hv => ?_)
        obtain ⟨r13, rfl, e12, H⟩ := hv
        have hS11 := e12.trans hS6
        show fx_V l M_MO_inRest (0, 0) Q 0 0 58 [some (.ref 31)] [.int (zI r13)] h11
        refine fx_pop d_MO_inRest_58 rfl ?_
        refine fx_goto (n := 24) d_MO_inRest_59 ?_
        exact H
      · replace H := H.2 z10
        refine fx_iconst d_MO_inRest_50 ?_
        refine fx_goto (n := 55) d_MO_inRest_51 ?_
        refine fx_callV (M' := M_MO_need) (B' := (0, 0)) (vs := [.int (zI 1)]) (rest := []) (c1 := 0) (s1 := 0) (n := 58) d_MO_inRest_55 ca_MO_inRest_273 (at_31 (h := _) hS6) rfl rfl rfl ⟨by decide, by decide⟩ (Nat.le_of_ble_eq_true rfl) (Or.inl rfl) (fx_Mt.mono H fun v h14 hv => ?_)
        obtain ⟨r16, rfl, e15, H⟩ := hv
        have hS14 := e15.trans hS6
        show fx_V l M_MO_inRest (0, 0) Q 0 0 58 [some (.ref 31)] [.int (zI r16)] h14
        refine fx_pop d_MO_inRest_58 rfl ?_
        refine fx_goto (n := 24) d_MO_inRest_59 ?_
        exact H

set_option maxRecDepth 100000 in
set_option maxHeartbeats 4000000 in
theorem e_MO_inByte {l : Launch} {Q : Option Value → fx_H → Prop} {h : fx_H}    {a : Nat → Nat} {pp dd : Nat} (hS : h.1 = fx_S0 a pp dd) 
    (H : fx_Mt l M_MO_inBits (0, 0) [.ref 31, .int (zI 8)] h (fun v h1 => ∃ r3 : Int, v = some (.int (zI r3)) ∧ h1.1 = h.1 ∧ Q (some (.int (zI r3))) h1)) :
    fx_Mt l M_MO_inByte (0, 0) [.ref 31] h Q := by
  refine fx_entry (ls := [some (.ref 31)]) (by decide) (Nat.le_of_ble_eq_true rfl) rfl ?_
  refine fx_aload_n (i := 0) d_MO_inByte_0 rfl rfl ?_
  refine fx_bipush (v := 8) d_MO_inByte_1 rfl ?_
  refine fx_callV (M' := M_MO_inBits) (B' := (0, 0)) (vs := [.int (zI 8)]) (rest := []) (c1 := 0) (s1 := 0) (n := 6) d_MO_inByte_3 ca_MO_inByte_280 (at_31 (h := _) hS) rfl rfl rfl ⟨by decide, by decide⟩ (Nat.le_of_ble_eq_true rfl) (Or.inl rfl) (fx_Mt.mono H fun v h1 hv => ?_)
  obtain ⟨r3, rfl, e2, H⟩ := hv
  have hS1 := e2.trans hS
  show fx_V l M_MO_inByte (0, 0) Q 0 0 6 [some (.ref 31)] [.int (zI r3)] h1
  exact fx_end (some (.int (zI r3))) ⟨⟨_, rfl, rfl⟩, d_MO_inByte_6⟩ (Nat.le_refl _) (Nat.le_refl _) rfl H

set_option maxRecDepth 100000 in
set_option maxHeartbeats 4000000 in
theorem e_MO_store {l : Launch} {Q : Option Value → fx_H → Prop} {h : fx_H}  {x : Int}  {a : Nat → Nat} {pp dd : Nat} (hS : h.1 = fx_S0 a pp dd) 
    (H : 0 ≤ (h.2.1 31 27) ∧ (h.2.1 31 27) < 400 ∧ Q none (fx_uF (fx_uA h 38 ((h.2.1 31 27).toNat) x) 31 27 ((h.2.1 31 27) + 1))) :
    fx_Mt l M_MO_store (0, 0) [.ref 31, .int (zI x)] h Q := by
  refine fx_entry (ls := [some (.ref 31), some (.int (zI x))]) (by decide) (Nat.le_of_ble_eq_true rfl) rfl ?_
  refine fx_aload_n (i := 0) d_MO_store_0 rfl rfl ?_
  refine fx_getR (q := 38) d_MO_store_1 lk_MO_47 (at_31 (h := _) hS) rfl rfl ?_
  refine fx_aload_n (i := 0) d_MO_store_4 rfl rfl ?_
  refine fx_getI d_MO_store_5 lk_MO_134 (at_31 (h := _) hS) rfl ?_
  refine fx_iload_n (i := 1) d_MO_store_8 rfl rfl ?_
  obtain ⟨hn1, H⟩ := H
  obtain ⟨hn2, H⟩ := H
  refine fx_iast d_MO_store_9 (at_38 (h := _) hS) hn1 hn2 (by decide) ?_
  refine fx_aload_n (i := 0) d_MO_store_10 rfl rfl ?_
  refine fx_dup d_MO_store_11 rfl ?_
  refine fx_getI d_MO_store_12 lk_MO_134 (at_31 (h := _) hS) rfl ?_
  refine fx_iconst d_MO_store_15 ?_
  refine fx_iadd d_MO_store_16 ?_
  refine fx_putI d_MO_store_17 lk_MO_134 (at_31 (h := _) hS) rfl rfl rfl ?_
  exact fx_end none ⟨rfl, d_MO_store_20⟩ (Nat.le_refl _) (Nat.le_refl _) rfl H

set_option maxRecDepth 100000 in
set_option maxHeartbeats 4000000 in
theorem e_MO_inTable {l : Launch} {Q : Option Value → fx_H → Prop} {h : fx_H}  {x : Int}  {a : Nat → Nat} {pp dd : Nat} (hS : h.1 = fx_S0 a pp dd) 
    (H : fx_Mt l M_MO_inBits (0, 0) [.ref 31, .int (zI 9)] h (fun v h1 => ∃ r3 : Int, v = some (.int (zI r3)) ∧ h1.1 = h.1 ∧ zR r3 ∧ ((¬ r3 = 256 → fx_Mt l M_MO_need (0, 0) [.ref 31, .int (zI 0)] h1 (fun v h6 => ∃ r8 : Int, v = some (.int (zI r8)) ∧ h6.1 = h1.1 ∧ (fx_V l M_MO_inTable (0, 0) Q 0 0 36 [some (.ref 31), some (.int (zI x)), some (.int (zI 0)), some (.int (zI (-1))), some (.int (zI 1)), none] [] (fx_uF h6 31 28 258)))) ∧ (r3 = 256 → fx_Mt l M_MO_need (0, 0) [.ref 31, .int (zI 1)] h1 (fun v h9 => ∃ r11 : Int, v = some (.int (zI r11)) ∧ h9.1 = h1.1 ∧ (fx_V l M_MO_inTable (0, 0) Q 0 0 36 [some (.ref 31), some (.int (zI x)), some (.int (zI 0)), some (.int (zI (-1))), some (.int (zI 1)), none] [] (fx_uF h9 31 28 258))))))) :
    fx_Mt l M_MO_inTable (0, 0) [.ref 31, .int (zI x)] h Q := by
  refine fx_entry (ls := [some (.ref 31), some (.int (zI x)), none, none, none, none]) (by decide) (Nat.le_of_ble_eq_true rfl) rfl ?_
  refine fx_aload_n (i := 0) d_MO_inTable_0 rfl rfl ?_
  refine fx_aload_n (i := 0) d_MO_inTable_1 rfl rfl ?_
  refine fx_bipush (v := 9) d_MO_inTable_2 rfl ?_
  refine fx_callV (M' := M_MO_inBits) (B' := (0, 0)) (vs := [.int (zI 9)]) (rest := [.ref 31]) (c1 := 0) (s1 := 0) (n := 7) d_MO_inTable_4 ca_MO_inTable_280 (at_31 (h := _) hS) rfl rfl rfl ⟨by decide, by decide⟩ (Nat.le_of_ble_eq_true rfl) (Or.inl rfl) (fx_Mt.mono H fun v h1 hv => ?_)
  obtain ⟨r3, rfl, e2, H⟩ := hv
  have hS1 := e2.trans hS
  show fx_V l M_MO_inTable (0, 0) Q 0 0 7 [some (.ref 31), some (.int (zI x)), none, none, none, none] [.int (zI r3), .ref 31] h1
  refine fx_sipush (v := 256) d_MO_inTable_7 rfl ?_
  obtain ⟨hz4, H⟩ := H
  refine fx_icmp_ne (t := 17) (n := 13) d_MO_inTable_10 hz4 (show zR 256 by decide) (fun z5 => ?_) (fun z5 => ?_)
  · replace H := H.1 z5
    refine fx_iconst d_MO_inTable_17 ?_
    refine fx_callV (M' := M_MO_need) (B' := (0, 0)) (vs := [.int (zI 0)]) (rest := []) (c1 := 0) (s1 := 0) (n := 21) d_MO_inTable_18 ca_MO_inTable_273 (at_31 (h := _) hS1) rfl rfl rfl ⟨by decide, by decide⟩ (Nat.le_of_ble_eq_true rfl) (Or.inl rfl) (fx_Mt.mono H fun v h6 hv => ?_)
    obtain ⟨r8, rfl, e7, H⟩ := hv
    have hS6 := e7.trans hS1
    show fx_V l M_MO_inTable (0, 0) Q 0 0 21 [some (.ref 31), some (.int (zI x)), none, none, none, none] [.int (zI r8)] h6
    refine fx_pop d_MO_inTable_21 rfl ?_
    refine fx_iconst d_MO_inTable_22 ?_
    refine fx_istore_n (i := 2) (ls2 := [some (.ref 31), some (.int (zI x)), some (.int (zI 0)), none, none, none]) d_MO_inTable_23 rfl (by decide) rfl ?_
    refine fx_iconst d_MO_inTable_24 ?_
    refine fx_istore_n (i := 3) (ls2 := [some (.ref 31), some (.int (zI x)), some (.int (zI 0)), some (.int (zI (-1))), none, none]) d_MO_inTable_25 rfl (by decide) rfl ?_
    refine fx_aload_n (i := 0) d_MO_inTable_26 rfl rfl ?_
    refine fx_sipush (v := 258) d_MO_inTable_27 rfl ?_
    refine fx_putI d_MO_inTable_30 lk_MO_141 (at_31 (h := _) hS6) rfl rfl rfl ?_
    refine fx_iconst d_MO_inTable_33 ?_
    refine fx_istore (ls2 := [some (.ref 31), some (.int (zI x)), some (.int (zI 0)), some (.int (zI (-1))), some (.int (zI 1)), none]) d_MO_inTable_34 (by decide) rfl ?_
    exact H
  · replace H := H.2 z5
    refine fx_iconst d_MO_inTable_13 ?_
    refine fx_goto (n := 18) d_MO_inTable_14 ?_
    refine fx_callV (M' := M_MO_need) (B' := (0, 0)) (vs := [.int (zI 1)]) (rest := []) (c1 := 0) (s1 := 0) (n := 21) d_MO_inTable_18 ca_MO_inTable_273 (at_31 (h := _) hS1) rfl rfl rfl ⟨by decide, by decide⟩ (Nat.le_of_ble_eq_true rfl) (Or.inl rfl) (fx_Mt.mono H fun v h9 hv => ?_)
    obtain ⟨r11, rfl, e10, H⟩ := hv
    have hS9 := e10.trans hS1
    show fx_V l M_MO_inTable (0, 0) Q 0 0 21 [some (.ref 31), some (.int (zI x)), none, none, none, none] [.int (zI r11)] h9
    refine fx_pop d_MO_inTable_21 rfl ?_
    refine fx_iconst d_MO_inTable_22 ?_
    refine fx_istore_n (i := 2) (ls2 := [some (.ref 31), some (.int (zI x)), some (.int (zI 0)), none, none, none]) d_MO_inTable_23 rfl (by decide) rfl ?_
    refine fx_iconst d_MO_inTable_24 ?_
    refine fx_istore_n (i := 3) (ls2 := [some (.ref 31), some (.int (zI x)), some (.int (zI 0)), some (.int (zI (-1))), none, none]) d_MO_inTable_25 rfl (by decide) rfl ?_
    refine fx_aload_n (i := 0) d_MO_inTable_26 rfl rfl ?_
    refine fx_sipush (v := 258) d_MO_inTable_27 rfl ?_
    refine fx_putI d_MO_inTable_30 lk_MO_141 (at_31 (h := _) hS9) rfl rfl rfl ?_
    refine fx_iconst d_MO_inTable_33 ?_
    refine fx_istore (ls2 := [some (.ref 31), some (.int (zI x)), some (.int (zI 0)), some (.int (zI (-1))), some (.int (zI 1)), none]) d_MO_inTable_34 (by decide) rfl ?_
    exact H

set_option maxRecDepth 100000 in
set_option maxHeartbeats 4000000 in
theorem w_MO_inTable_36 {l : Launch} {Q : Option Value → fx_H → Prop} {h : fx_H}  {x1 : Int} {x2 : Int} {x3 : Int} {x4 : Int}  {a : Nat → Nat} {pp dd : Nat} (hS : h.1 = fx_S0 a pp dd) 
    (H : zR x4 ∧ ((x4 = 0 → zR (h.2.1 31 27) ∧ zR x1 ∧ ((¬ (h.2.1 31 27) = x1 → fx_Mt l M_MO_need (0, 0) [.ref 31, .int (zI 0)] h (fun v h6 => ∃ r8 : Int, v = some (.int (zI r8)) ∧ h6.1 = h.1 ∧ fx_Mt l M_MO_inRest (0, 0) [.ref 31] h6 (fun v h9 => v = none ∧ h9.1 = h6.1 ∧ Q none h9))) ∧ ((h.2.1 31 27) = x1 → fx_Mt l M_MO_need (0, 0) [.ref 31, .int (zI 1)] h (fun v h11 => ∃ r13 : Int, v = some (.int (zI r13)) ∧ h11.1 = h.1 ∧ fx_Mt l M_MO_inRest (0, 0) [.ref 31] h11 (fun v h14 => v = none ∧ h14.1 = h11.1 ∧ Q none h14))))) ∧ (¬ (x4 = 0) → zR (h.2.1 31 22) ∧ ((¬ (h.2.1 31 22) = 0 → zR (h.2.1 31 27) ∧ zR x1 ∧ ((¬ (h.2.1 31 27) = x1 → fx_Mt l M_MO_need (0, 0) [.ref 31, .int (zI 0)] h (fun v h21 => ∃ r23 : Int, v = some (.int (zI r23)) ∧ h21.1 = h.1 ∧ fx_Mt l M_MO_inRest (0, 0) [.ref 31] h21 (fun v h24 => v = none ∧ h24.1 = h21.1 ∧ Q none h24))) ∧ ((h.2.1 31 27) = x1 → fx_Mt l M_MO_need (0, 0) [.ref 31, .int (zI 1)] h (fun v h26 => ∃ r28 : Int, v = some (.int (zI r28)) ∧ h26.1 = h.1 ∧ fx_Mt l M_MO_inRest (0, 0) [.ref 31] h26 (fun v h29 => v = none ∧ h29.1 = h26.1 ∧ Q none h29))))) ∧ ((h.2.1 31 22) = 0 → fx_Mt l M_MO_digitsOf (0, 0) [.int (zI (x2 + 1))] h (fun v h31 => ∃ r33 : Int, v = some (.int (zI r33)) ∧ h31.1 = h.1 ∧ fx_Mt l M_MO_inBits (0, 0) [.ref 31, .int (zI r33)] h31 (fun v h34 => ∃ r36 : Int, v = some (.int (zI r36)) ∧ h34.1 = h31.1 ∧ zR r36 ∧ ((¬ r36 = 256 → ((¬ r36 = 257 → zR x3 ∧ ((0 ≤ x3 → zR (h34.2.1 31 28) ∧ (((h34.2.1 31 28) < r36 → fx_Mt l M_MO_need (0, 0) [.ref 31, .int (zI 0)] h34 (fun v h44 => ∃ r46 : Int, v = some (.int (zI r46)) ∧ h44.1 = h34.1 ∧ zR r46 ∧ ((r46 = 0 → (fx_V l M_MO_inTable (0, 0) Q 0 0 36 [some (.ref 31), some (.int (zI x1)), some (.int (zI (x2 + 1))), some (.int (zI x3)), some (.int (zI x4)), none] [] h44)) ∧ (¬ (r46 = 0) → ((x3 < 0 → fx_Mt l M_MO_storeEntry (0, 0) [.ref 31, .int (zI r36), .int (zI x1)] h44 (fun v h50 => v = none ∧ h50.1 = h44.1 ∧ (fx_V l M_MO_inTable (0, 0) Q 0 0 36 [some (.ref 31), some (.int (zI x1)), some (.int (zI (x2 + 1))), some (.int (zI r36)), some (.int (zI x4)), none] [] h50))) ∧ (¬ (x3 < 0) → zR (h44.2.1 31 28) ∧ ((¬ r36 = (h44.2.1 31 28) → fx_Mt l M_MO_firstOf (0, 0) [.ref 31, .int (zI r36)] h44 (fun v h54 => ∃ r56 : Int, v = some (.int (zI r56)) ∧ h54.1 = h44.1 ∧ fx_Mt l M_MO_make (0, 0) [.ref 31, .int (zI x3), .int (zI r56)] h54 (fun v h57 => v = none ∧ h57.1 = h54.1 ∧ fx_Mt l M_MO_storeEntry (0, 0) [.ref 31, .int (zI r36), .int (zI x1)] h57 (fun v h59 => v = none ∧ h59.1 = h57.1 ∧ (fx_V l M_MO_inTable (0, 0) Q 0 0 36 [some (.ref 31), some (.int (zI x1)), some (.int (zI (x2 + 1))), some (.int (zI r36)), some (.int (zI x4)), none] [] h59))))) ∧ (r36 = (h44.2.1 31 28) → fx_Mt l M_MO_firstOf (0, 0) [.ref 31, .int (zI x3)] h44 (fun v h61 => ∃ r63 : Int, v = some (.int (zI r63)) ∧ h61.1 = h44.1 ∧ fx_Mt l M_MO_make (0, 0) [.ref 31, .int (zI x3), .int (zI r63)] h61 (fun v h64 => v = none ∧ h64.1 = h61.1 ∧ fx_Mt l M_MO_storeEntry (0, 0) [.ref 31, .int (zI r36), .int (zI x1)] h64 (fun v h66 => v = none ∧ h66.1 = h64.1 ∧ (fx_V l M_MO_inTable (0, 0) Q 0 0 36 [some (.ref 31), some (.int (zI x1)), some (.int (zI (x2 + 1))), some (.int (zI r36)), some (.int (zI x4)), none] [] h66)))))))))))) ∧ (¬ ((h34.2.1 31 28) < r36) → fx_Mt l M_MO_need (0, 0) [.ref 31, .int (zI 1)] h34 (fun v h68 => ∃ r70 : Int, v = some (.int (zI r70)) ∧ h68.1 = h34.1 ∧ zR r70 ∧ ((r70 = 0 → (fx_V l M_MO_inTable (0, 0) Q 0 0 36 [some (.ref 31), some (.int (zI x1)), some (.int (zI (x2 + 1))), some (.int (zI x3)), some (.int (zI x4)), none] [] h68)) ∧ (¬ (r70 = 0) → ((x3 < 0 → fx_Mt l M_MO_storeEntry (0, 0) [.ref 31, .int (zI r36), .int (zI x1)] h68 (fun v h74 => v = none ∧ h74.1 = h68.1 ∧ (fx_V l M_MO_inTable (0, 0) Q 0 0 36 [some (.ref 31), some (.int (zI x1)), some (.int (zI (x2 + 1))), some (.int (zI r36)), some (.int (zI x4)), none] [] h74))) ∧ (¬ (x3 < 0) → zR (h68.2.1 31 28) ∧ ((¬ r36 = (h68.2.1 31 28) → fx_Mt l M_MO_firstOf (0, 0) [.ref 31, .int (zI r36)] h68 (fun v h78 => ∃ r80 : Int, v = some (.int (zI r80)) ∧ h78.1 = h68.1 ∧ fx_Mt l M_MO_make (0, 0) [.ref 31, .int (zI x3), .int (zI r80)] h78 (fun v h81 => v = none ∧ h81.1 = h78.1 ∧ fx_Mt l M_MO_storeEntry (0, 0) [.ref 31, .int (zI r36), .int (zI x1)] h81 (fun v h83 => v = none ∧ h83.1 = h81.1 ∧ (fx_V l M_MO_inTable (0, 0) Q 0 0 36 [some (.ref 31), some (.int (zI x1)), some (.int (zI (x2 + 1))), some (.int (zI r36)), some (.int (zI x4)), none] [] h83))))) ∧ (r36 = (h68.2.1 31 28) → fx_Mt l M_MO_firstOf (0, 0) [.ref 31, .int (zI x3)] h68 (fun v h85 => ∃ r87 : Int, v = some (.int (zI r87)) ∧ h85.1 = h68.1 ∧ fx_Mt l M_MO_make (0, 0) [.ref 31, .int (zI x3), .int (zI r87)] h85 (fun v h88 => v = none ∧ h88.1 = h85.1 ∧ fx_Mt l M_MO_storeEntry (0, 0) [.ref 31, .int (zI r36), .int (zI x1)] h88 (fun v h90 => v = none ∧ h90.1 = h88.1 ∧ (fx_V l M_MO_inTable (0, 0) Q 0 0 36 [some (.ref 31), some (.int (zI x1)), some (.int (zI (x2 + 1))), some (.int (zI r36)), some (.int (zI x4)), none] [] h90)))))))))))))) ∧ (¬ (0 ≤ x3) → ((256 ≤ r36 → fx_Mt l M_MO_need (0, 0) [.ref 31, .int (zI 0)] h34 (fun v h93 => ∃ r95 : Int, v = some (.int (zI r95)) ∧ h93.1 = h34.1 ∧ zR r95 ∧ ((r95 = 0 → (fx_V l M_MO_inTable (0, 0) Q 0 0 36 [some (.ref 31), some (.int (zI x1)), some (.int (zI (x2 + 1))), some (.int (zI x3)), some (.int (zI x4)), none] [] h93)) ∧ (¬ (r95 = 0) → ((x3 < 0 → fx_Mt l M_MO_storeEntry (0, 0) [.ref 31, .int (zI r36), .int (zI x1)] h93 (fun v h99 => v = none ∧ h99.1 = h93.1 ∧ (fx_V l M_MO_inTable (0, 0) Q 0 0 36 [some (.ref 31), some (.int (zI x1)), some (.int (zI (x2 + 1))), some (.int (zI r36)), some (.int (zI x4)), none] [] h99))) ∧ (¬ (x3 < 0) → zR (h93.2.1 31 28) ∧ ((¬ r36 = (h93.2.1 31 28) → fx_Mt l M_MO_firstOf (0, 0) [.ref 31, .int (zI r36)] h93 (fun v h103 => ∃ r105 : Int, v = some (.int (zI r105)) ∧ h103.1 = h93.1 ∧ fx_Mt l M_MO_make (0, 0) [.ref 31, .int (zI x3), .int (zI r105)] h103 (fun v h106 => v = none ∧ h106.1 = h103.1 ∧ fx_Mt l M_MO_storeEntry (0, 0) [.ref 31, .int (zI r36), .int (zI x1)] h106 (fun v h108 => v = none ∧ h108.1 = h106.1 ∧ (fx_V l M_MO_inTable (0, 0) Q 0 0 36 [some (.ref 31), some (.int (zI x1)), some (.int (zI (x2 + 1))), some (.int (zI r36)), some (.int (zI x4)), none] [] h108))))) ∧ (r36 = (h93.2.1 31 28) → fx_Mt l M_MO_firstOf (0, 0) [.ref 31, .int (zI x3)] h93 (fun v h110 => ∃ r112 : Int, v = some (.int (zI r112)) ∧ h110.1 = h93.1 ∧ fx_Mt l M_MO_make (0, 0) [.ref 31, .int (zI x3), .int (zI r112)] h110 (fun v h113 => v = none ∧ h113.1 = h110.1 ∧ fx_Mt l M_MO_storeEntry (0, 0) [.ref 31, .int (zI r36), .int (zI x1)] h113 (fun v h115 => v = none ∧ h115.1 = h113.1 ∧ (fx_V l M_MO_inTable (0, 0) Q 0 0 36 [some (.ref 31), some (.int (zI x1)), some (.int (zI (x2 + 1))), some (.int (zI r36)), some (.int (zI x4)), none] [] h115)))))))))))) ∧ (¬ (256 ≤ r36) → fx_Mt l M_MO_need (0, 0) [.ref 31, .int (zI 1)] h34 (fun v h117 => ∃ r119 : Int, v = some (.int (zI r119)) ∧ h117.1 = h34.1 ∧ zR r119 ∧ ((r119 = 0 → (fx_V l M_MO_inTable (0, 0) Q 0 0 36 [some (.ref 31), some (.int (zI x1)), some (.int (zI (x2 + 1))), some (.int (zI x3)), some (.int (zI x4)), none] [] h117)) ∧ (¬ (r119 = 0) → ((x3 < 0 → fx_Mt l M_MO_storeEntry (0, 0) [.ref 31, .int (zI r36), .int (zI x1)] h117 (fun v h123 => v = none ∧ h123.1 = h117.1 ∧ (fx_V l M_MO_inTable (0, 0) Q 0 0 36 [some (.ref 31), some (.int (zI x1)), some (.int (zI (x2 + 1))), some (.int (zI r36)), some (.int (zI x4)), none] [] h123))) ∧ (¬ (x3 < 0) → zR (h117.2.1 31 28) ∧ ((¬ r36 = (h117.2.1 31 28) → fx_Mt l M_MO_firstOf (0, 0) [.ref 31, .int (zI r36)] h117 (fun v h127 => ∃ r129 : Int, v = some (.int (zI r129)) ∧ h127.1 = h117.1 ∧ fx_Mt l M_MO_make (0, 0) [.ref 31, .int (zI x3), .int (zI r129)] h127 (fun v h130 => v = none ∧ h130.1 = h127.1 ∧ fx_Mt l M_MO_storeEntry (0, 0) [.ref 31, .int (zI r36), .int (zI x1)] h130 (fun v h132 => v = none ∧ h132.1 = h130.1 ∧ (fx_V l M_MO_inTable (0, 0) Q 0 0 36 [some (.ref 31), some (.int (zI x1)), some (.int (zI (x2 + 1))), some (.int (zI r36)), some (.int (zI x4)), none] [] h132))))) ∧ (r36 = (h117.2.1 31 28) → fx_Mt l M_MO_firstOf (0, 0) [.ref 31, .int (zI x3)] h117 (fun v h134 => ∃ r136 : Int, v = some (.int (zI r136)) ∧ h134.1 = h117.1 ∧ fx_Mt l M_MO_make (0, 0) [.ref 31, .int (zI x3), .int (zI r136)] h134 (fun v h137 => v = none ∧ h137.1 = h134.1 ∧ fx_Mt l M_MO_storeEntry (0, 0) [.ref 31, .int (zI r36), .int (zI x1)] h137 (fun v h139 => v = none ∧ h139.1 = h137.1 ∧ (fx_V l M_MO_inTable (0, 0) Q 0 0 36 [some (.ref 31), some (.int (zI x1)), some (.int (zI (x2 + 1))), some (.int (zI r36)), some (.int (zI x4)), none] [] h139)))))))))))))))) ∧ (r36 = 257 → (fx_V l M_MO_inTable (0, 0) Q 0 0 36 [some (.ref 31), some (.int (zI x1)), some (.int (zI (x2 + 1))), some (.int (zI x3)), some (.int (zI 0)), none] [] h34)))) ∧ (r36 = 256 → (fx_V l M_MO_inTable (0, 0) Q 0 0 36 [some (.ref 31), some (.int (zI x1)), some (.int (zI 0)), some (.int (zI (-1))), some (.int (zI x4)), none] [] (fx_uF h34 31 28 258))))))))))) :
    fx_V l M_MO_inTable (0, 0) Q 0 0 36 [some (.ref 31), some (.int (zI x1)), some (.int (zI x2)), some (.int (zI x3)), some (.int (zI x4)), none] [] h := by
  refine fx_iload d_MO_inTable_36 rfl ?_
  obtain ⟨hz1, H⟩ := H
  refine fx_if_eq (t := 179) (n := 41) d_MO_inTable_38 hz1 (fun z2 => ?_) (fun z2 => ?_)
  · replace H := H.1 z2
    refine fx_aload_n (i := 0) d_MO_inTable_179 rfl rfl ?_
    refine fx_aload_n (i := 0) d_MO_inTable_180 rfl rfl ?_
    refine fx_getI d_MO_inTable_181 lk_MO_134 (at_31 (h := _) hS) rfl ?_
    refine fx_iload_n (i := 1) d_MO_inTable_184 rfl rfl ?_
    obtain ⟨hz3, H⟩ := H
    obtain ⟨hz4, H⟩ := H
    refine fx_icmp_ne (t := 192) (n := 188) d_MO_inTable_185 hz3 hz4 (fun z5 => ?_) (fun z5 => ?_)
    · replace H := H.1 z5
      refine fx_iconst d_MO_inTable_192 ?_
      refine fx_callV (M' := M_MO_need) (B' := (0, 0)) (vs := [.int (zI 0)]) (rest := []) (c1 := 0) (s1 := 0) (n := 196) d_MO_inTable_193 ca_MO_inTable_273 (at_31 (h := _) hS) rfl rfl rfl ⟨by decide, by decide⟩ (Nat.le_of_ble_eq_true rfl) (Or.inl rfl) (fx_Mt.mono H fun v h6 hv => ?_)
      obtain ⟨r8, rfl, e7, H⟩ := hv
      have hS6 := e7.trans hS
      show fx_V l M_MO_inTable (0, 0) Q 0 0 196 [some (.ref 31), some (.int (zI x1)), some (.int (zI x2)), some (.int (zI x3)), some (.int (zI x4)), none] [.int (zI r8)] h6
      refine fx_pop d_MO_inTable_196 rfl ?_
      refine fx_aload_n (i := 0) d_MO_inTable_197 rfl rfl ?_
      refine fx_callV (M' := M_MO_inRest) (B' := (0, 0)) (vs := []) (rest := []) (c1 := 0) (s1 := 0) (n := 201) d_MO_inTable_198 ca_MO_inTable_295 (at_31 (h := _) hS6) rfl rfl rfl ⟨by decide, by decide⟩ (Nat.le_of_ble_eq_true rfl) (Or.inl rfl) (fx_Mt.mono H fun v h9 hv => ?_)
      obtain ⟨rfl, e10, H⟩ := hv
      have hS9 := e10.trans hS6
      show fx_V l M_MO_inTable (0, 0) Q 0 0 201 [some (.ref 31), some (.int (zI x1)), some (.int (zI x2)), some (.int (zI x3)), some (.int (zI x4)), none] [] h9
      exact fx_end none ⟨rfl, d_MO_inTable_201⟩ (Nat.le_refl _) (Nat.le_refl _) rfl H
    · replace H := H.2 z5
      refine fx_iconst d_MO_inTable_188 ?_
      refine fx_goto (n := 193) d_MO_inTable_189 ?_
      refine fx_callV (M' := M_MO_need) (B' := (0, 0)) (vs := [.int (zI 1)]) (rest := []) (c1 := 0) (s1 := 0) (n := 196) d_MO_inTable_193 ca_MO_inTable_273 (at_31 (h := _) hS) rfl rfl rfl ⟨by decide, by decide⟩ (Nat.le_of_ble_eq_true rfl) (Or.inl rfl) (fx_Mt.mono H fun v h11 hv => ?_)
      obtain ⟨r13, rfl, e12, H⟩ := hv
      have hS11 := e12.trans hS
      show fx_V l M_MO_inTable (0, 0) Q 0 0 196 [some (.ref 31), some (.int (zI x1)), some (.int (zI x2)), some (.int (zI x3)), some (.int (zI x4)), none] [.int (zI r13)] h11
      refine fx_pop d_MO_inTable_196 rfl ?_
      refine fx_aload_n (i := 0) d_MO_inTable_197 rfl rfl ?_
      refine fx_callV (M' := M_MO_inRest) (B' := (0, 0)) (vs := []) (rest := []) (c1 := 0) (s1 := 0) (n := 201) d_MO_inTable_198 ca_MO_inTable_295 (at_31 (h := _) hS11) rfl rfl rfl ⟨by decide, by decide⟩ (Nat.le_of_ble_eq_true rfl) (Or.inl rfl) (fx_Mt.mono H fun v h14 hv => ?_)
      obtain ⟨rfl, e15, H⟩ := hv
      have hS14 := e15.trans hS11
      show fx_V l M_MO_inTable (0, 0) Q 0 0 201 [some (.ref 31), some (.int (zI x1)), some (.int (zI x2)), some (.int (zI x3)), some (.int (zI x4)), none] [] h14
      exact fx_end none ⟨rfl, d_MO_inTable_201⟩ (Nat.le_refl _) (Nat.le_refl _) rfl H
  · replace H := H.2 z2
    refine fx_aload_n (i := 0) d_MO_inTable_41 rfl rfl ?_
    refine fx_getI d_MO_inTable_42 lk_MO_264 (at_31 (h := _) hS) rfl ?_
    obtain ⟨hz16, H⟩ := H
    refine fx_if_ne (t := 179) (n := 48) d_MO_inTable_45 hz16 (fun z17 => ?_) (fun z17 => ?_)
    · replace H := H.1 z17
      refine fx_aload_n (i := 0) d_MO_inTable_179 rfl rfl ?_
      refine fx_aload_n (i := 0) d_MO_inTable_180 rfl rfl ?_
      refine fx_getI d_MO_inTable_181 lk_MO_134 (at_31 (h := _) hS) rfl ?_
      refine fx_iload_n (i := 1) d_MO_inTable_184 rfl rfl ?_
      obtain ⟨hz18, H⟩ := H
      obtain ⟨hz19, H⟩ := H
      refine fx_icmp_ne (t := 192) (n := 188) d_MO_inTable_185 hz18 hz19 (fun z20 => ?_) (fun z20 => ?_)
      · replace H := H.1 z20
        refine fx_iconst d_MO_inTable_192 ?_
        refine fx_callV (M' := M_MO_need) (B' := (0, 0)) (vs := [.int (zI 0)]) (rest := []) (c1 := 0) (s1 := 0) (n := 196) d_MO_inTable_193 ca_MO_inTable_273 (at_31 (h := _) hS) rfl rfl rfl ⟨by decide, by decide⟩ (Nat.le_of_ble_eq_true rfl) (Or.inl rfl) (fx_Mt.mono H fun v h21 hv => ?_)
        obtain ⟨r23, rfl, e22, H⟩ := hv
        have hS21 := e22.trans hS
        show fx_V l M_MO_inTable (0, 0) Q 0 0 196 [some (.ref 31), some (.int (zI x1)), some (.int (zI x2)), some (.int (zI x3)), some (.int (zI x4)), none] [.int (zI r23)] h21
        refine fx_pop d_MO_inTable_196 rfl ?_
        refine fx_aload_n (i := 0) d_MO_inTable_197 rfl rfl ?_
        refine fx_callV (M' := M_MO_inRest) (B' := (0, 0)) (vs := []) (rest := []) (c1 := 0) (s1 := 0) (n := 201) d_MO_inTable_198 ca_MO_inTable_295 (at_31 (h := _) hS21) rfl rfl rfl ⟨by decide, by decide⟩ (Nat.le_of_ble_eq_true rfl) (Or.inl rfl) (fx_Mt.mono H fun v h24 hv => ?_)
        obtain ⟨rfl, e25, H⟩ := hv
        have hS24 := e25.trans hS21
        show fx_V l M_MO_inTable (0, 0) Q 0 0 201 [some (.ref 31), some (.int (zI x1)), some (.int (zI x2)), some (.int (zI x3)), some (.int (zI x4)), none] [] h24
        exact fx_end none ⟨rfl, d_MO_inTable_201⟩ (Nat.le_refl _) (Nat.le_refl _) rfl H
      · replace H := H.2 z20
        refine fx_iconst d_MO_inTable_188 ?_
        refine fx_goto (n := 193) d_MO_inTable_189 ?_
        refine fx_callV (M' := M_MO_need) (B' := (0, 0)) (vs := [.int (zI 1)]) (rest := []) (c1 := 0) (s1 := 0) (n := 196) d_MO_inTable_193 ca_MO_inTable_273 (at_31 (h := _) hS) rfl rfl rfl ⟨by decide, by decide⟩ (Nat.le_of_ble_eq_true rfl) (Or.inl rfl) (fx_Mt.mono H fun v h26 hv => ?_)
        obtain ⟨r28, rfl, e27, H⟩ := hv
        have hS26 := e27.trans hS
        show fx_V l M_MO_inTable (0, 0) Q 0 0 196 [some (.ref 31), some (.int (zI x1)), some (.int (zI x2)), some (.int (zI x3)), some (.int (zI x4)), none] [.int (zI r28)] h26
        refine fx_pop d_MO_inTable_196 rfl ?_
        refine fx_aload_n (i := 0) d_MO_inTable_197 rfl rfl ?_
        refine fx_callV (M' := M_MO_inRest) (B' := (0, 0)) (vs := []) (rest := []) (c1 := 0) (s1 := 0) (n := 201) d_MO_inTable_198 ca_MO_inTable_295 (at_31 (h := _) hS26) rfl rfl rfl ⟨by decide, by decide⟩ (Nat.le_of_ble_eq_true rfl) (Or.inl rfl) (fx_Mt.mono H fun v h29 hv => ?_)
        obtain ⟨rfl, e30, H⟩ := hv
        have hS29 := e30.trans hS26
        show fx_V l M_MO_inTable (0, 0) Q 0 0 201 [some (.ref 31), some (.int (zI x1)), some (.int (zI x2)), some (.int (zI x3)), some (.int (zI x4)), none] [] h29
        exact fx_end none ⟨rfl, d_MO_inTable_201⟩ (Nat.le_refl _) (Nat.le_refl _) rfl H
    · replace H := H.2 z17
      refine fx_iinc (v := x2 + 1) (ls2 := [some (.ref 31), some (.int (zI x1)), some (.int (zI (x2 + 1))), some (.int (zI x3)), some (.int (zI x4)), none]) d_MO_inTable_48 rfl rfl (by decide) rfl ?_
      refine fx_aload_n (i := 0) d_MO_inTable_51 rfl rfl ?_
      refine fx_iload_n (i := 2) d_MO_inTable_52 rfl rfl ?_
      refine fx_callS (M' := M_MO_digitsOf) (B' := (0, 0)) (vs := [.int (zI (x2 + 1))]) (rest := [.ref 31]) (c1 := 0) (s1 := 0) (n := 56) d_MO_inTable_53 ca_MO_inTable_148 rfl rfl ⟨by decide, by decide⟩ (Nat.le_of_ble_eq_true rfl) (Or.inl rfl) (fx_Mt.mono H fun v h31 hv => ?_)
      obtain ⟨r33, rfl, e32, H⟩ := hv
      have hS31 := e32.trans hS
      show fx_V l M_MO_inTable (0, 0) Q 0 0 56 [some (.ref 31), some (.int (zI x1)), some (.int (zI (x2 + 1))), some (.int (zI x3)), some (.int (zI x4)), none] [.int (zI r33), .ref 31] h31
      refine fx_callV (M' := M_MO_inBits) (B' := (0, 0)) (vs := [.int (zI r33)]) (rest := []) (c1 := 0) (s1 := 0) (n := 59) d_MO_inTable_56 ca_MO_inTable_280 (at_31 (h := _) hS31) rfl rfl rfl ⟨by decide, by decide⟩ (Nat.le_of_ble_eq_true rfl) (Or.inl rfl) (fx_Mt.mono H fun v h34 hv => ?_)
      obtain ⟨r36, rfl, e35, H⟩ := hv
      have hS34 := e35.trans hS31
      show fx_V l M_MO_inTable (0, 0) Q 0 0 59 [some (.ref 31), some (.int (zI x1)), some (.int (zI (x2 + 1))), some (.int (zI x3)), some (.int (zI x4)), none] [.int (zI r36)] h34
      refine fx_istore (ls2 := [some (.ref 31), some (.int (zI x1)), some (.int (zI (x2 + 1))), some (.int (zI x3)), some (.int (zI x4)), some (.int (zI r36))]) d_MO_inTable_59 (by decide) rfl ?_
      refine fx_iload d_MO_inTable_61 rfl ?_
      refine fx_sipush (v := 256) d_MO_inTable_63 rfl ?_
      obtain ⟨hz37, H⟩ := H
      refine fx_icmp_ne (t := 83) (n := 69) d_MO_inTable_66 hz37 (show zR 256 by decide) (fun z38 => ?_) (fun z38 => ?_)
      · replace H := H.1 z38
        refine fx_iload d_MO_inTable_83 rfl ?_
        refine fx_sipush (v := 257) d_MO_inTable_85 rfl ?_
        refine fx_icmp_ne (t := 97) (n := 91) d_MO_inTable_88 hz37 (show zR 257 by decide) (fun z39 => ?_) (fun z39 => ?_)
        · replace H := H.1 z39
          refine fx_aload_n (i := 0) d_MO_inTable_97 rfl rfl ?_
          refine fx_iload_n (i := 3) d_MO_inTable_98 rfl rfl ?_
          obtain ⟨hz40, H⟩ := H
          refine fx_if_ge (t := 118) (n := 102) d_MO_inTable_99 hz40 (fun z41 => ?_) (fun z41 => ?_)
          · replace H := H.1 z41
            refine fx_iload d_MO_inTable_118 rfl ?_
            refine fx_aload_n (i := 0) d_MO_inTable_120 rfl rfl ?_
            refine fx_getI d_MO_inTable_121 lk_MO_141 (at_31 (h := _) hS34) rfl ?_
            obtain ⟨hz42, H⟩ := H
            refine fx_icmp_gt (t := 131) (n := 127) d_MO_inTable_124 hz37 hz42 (fun z43 => ?_) (fun z43 => ?_)
            · replace H := H.1 z43
              refine fx_iconst d_MO_inTable_131 ?_
              refine fx_callV (M' := M_MO_need) (B' := (0, 0)) (vs := [.int (zI 0)]) (rest := []) (c1 := 0) (s1 := 0) (n := 135) d_MO_inTable_132 ca_MO_inTable_273 (at_31 (h := _) hS34) rfl rfl rfl ⟨by decide, by decide⟩ (Nat.le_of_ble_eq_true rfl) (Or.inl rfl) (fx_Mt.mono H fun v h44 hv => ?_)
              obtain ⟨r46, rfl, e45, H⟩ := hv
              have hS44 := e45.trans hS34
              show fx_V l M_MO_inTable (0, 0) Q 0 0 135 [some (.ref 31), some (.int (zI x1)), some (.int (zI (x2 + 1))), some (.int (zI x3)), some (.int (zI x4)), some (.int (zI r36))] [.int (zI r46)] h44
              obtain ⟨hz47, H⟩ := H
              refine fx_if_eq (t := 176) (n := 138) d_MO_inTable_135 hz47 (fun z48 => ?_) (fun z48 => ?_)
              · replace H := H.1 z48
                refine fx_goto (n := 36) d_MO_inTable_176 ?_
                exact fx_fewer [some (.ref 31), some (.int (zI x1)), some (.int (zI (x2 + 1))), some (.int (zI x3)), some (.int (zI x4)), none] ⟨rfl, rfl, rfl, rfl, rfl, trivial⟩ H
              · replace H := H.2 z48
                refine fx_iload_n (i := 3) d_MO_inTable_138 rfl rfl ?_
                refine fx_if_lt (t := 166) (n := 142) d_MO_inTable_139 hz40 (fun z49 => ?_) (fun z49 => ?_)
                · replace H := H.1 z49
                  refine fx_aload_n (i := 0) d_MO_inTable_166 rfl rfl ?_
                  refine fx_iload d_MO_inTable_167 rfl ?_
                  refine fx_iload_n (i := 1) d_MO_inTable_169 rfl rfl ?_
                  refine fx_callV (M' := M_MO_storeEntry) (B' := (0, 0)) (vs := [.int (zI r36), .int (zI x1)]) (rest := []) (c1 := 0) (s1 := 0) (n := 173) d_MO_inTable_170 ca_MO_inTable_292 (at_31 (h := _) hS44) rfl rfl rfl ⟨by decide, by decide⟩ (Nat.le_of_ble_eq_true rfl) (Or.inl rfl) (fx_Mt.mono H fun v h50 hv => ?_)
                  obtain ⟨rfl, e51, H⟩ := hv
                  have hS50 := e51.trans hS44
                  show fx_V l M_MO_inTable (0, 0) Q 0 0 173 [some (.ref 31), some (.int (zI x1)), some (.int (zI (x2 + 1))), some (.int (zI x3)), some (.int (zI x4)), some (.int (zI r36))] [] h50
                  refine fx_iload d_MO_inTable_173 rfl ?_
                  refine fx_istore_n (i := 3) (ls2 := [some (.ref 31), some (.int (zI x1)), some (.int (zI (x2 + 1))), some (.int (zI r36)), some (.int (zI x4)), some (.int (zI r36))]) d_MO_inTable_175 rfl (by decide) rfl ?_
                  refine fx_goto (n := 36) d_MO_inTable_176 ?_
                  exact fx_fewer [some (.ref 31), some (.int (zI x1)), some (.int (zI (x2 + 1))), some (.int (zI r36)), some (.int (zI x4)), none] ⟨rfl, rfl, rfl, rfl, rfl, trivial⟩ H
                · replace H := H.2 z49
                  refine fx_aload_n (i := 0) d_MO_inTable_142 rfl rfl ?_
                  refine fx_iload_n (i := 3) d_MO_inTable_143 rfl rfl ?_
                  refine fx_aload_n (i := 0) d_MO_inTable_144 rfl rfl ?_
                  refine fx_iload d_MO_inTable_145 rfl ?_
                  refine fx_aload_n (i := 0) d_MO_inTable_147 rfl rfl ?_
                  refine fx_getI d_MO_inTable_148 lk_MO_141 (at_31 (h := _) hS44) rfl ?_
                  obtain ⟨hz52, H⟩ := H
                  refine fx_icmp_ne (t := 158) (n := 154) d_MO_inTable_151 hz37 hz52 (fun z53 => ?_) (fun z53 => ?_)
                  · replace H := H.1 z53
                    refine fx_iload d_MO_inTable_158 rfl ?_
                    refine fx_callV (M' := M_MO_firstOf) (B' := (0, 0)) (vs := [.int (zI r36)]) (rest := [.int (zI x3), .ref 31]) (c1 := 0) (s1 := 0) (n := 163) d_MO_inTable_160 ca_MO_inTable_289 (at_31 (h := _) hS44) rfl rfl rfl ⟨by decide, by decide⟩ (Nat.le_of_ble_eq_true rfl) (Or.inl rfl) (fx_Mt.mono H fun v h54 hv => ?_)
                    obtain ⟨r56, rfl, e55, H⟩ := hv
                    have hS54 := e55.trans hS44
                    show fx_V l M_MO_inTable (0, 0) Q 0 0 163 [some (.ref 31), some (.int (zI x1)), some (.int (zI (x2 + 1))), some (.int (zI x3)), some (.int (zI x4)), some (.int (zI r36))] [.int (zI r56), .int (zI x3), .ref 31] h54
                    refine fx_callV (M' := M_MO_make) (B' := (0, 0)) (vs := [.int (zI x3), .int (zI r56)]) (rest := []) (c1 := 0) (s1 := 0) (n := 166) d_MO_inTable_163 ca_MO_inTable_152 (at_31 (h := _) hS54) rfl rfl rfl ⟨by decide, by decide⟩ (Nat.le_of_ble_eq_true rfl) (Or.inl rfl) (fx_Mt.mono H fun v h57 hv => ?_)
                    obtain ⟨rfl, e58, H⟩ := hv
                    have hS57 := e58.trans hS54
                    show fx_V l M_MO_inTable (0, 0) Q 0 0 166 [some (.ref 31), some (.int (zI x1)), some (.int (zI (x2 + 1))), some (.int (zI x3)), some (.int (zI x4)), some (.int (zI r36))] [] h57
                    refine fx_aload_n (i := 0) d_MO_inTable_166 rfl rfl ?_
                    refine fx_iload d_MO_inTable_167 rfl ?_
                    refine fx_iload_n (i := 1) d_MO_inTable_169 rfl rfl ?_
                    refine fx_callV (M' := M_MO_storeEntry) (B' := (0, 0)) (vs := [.int (zI r36), .int (zI x1)]) (rest := []) (c1 := 0) (s1 := 0) (n := 173) d_MO_inTable_170 ca_MO_inTable_292 (at_31 (h := _) hS57) rfl rfl rfl ⟨by decide, by decide⟩ (Nat.le_of_ble_eq_true rfl) (Or.inl rfl) (fx_Mt.mono H fun v h59 hv => ?_)
                    obtain ⟨rfl, e60, H⟩ := hv
                    have hS59 := e60.trans hS57
                    show fx_V l M_MO_inTable (0, 0) Q 0 0 173 [some (.ref 31), some (.int (zI x1)), some (.int (zI (x2 + 1))), some (.int (zI x3)), some (.int (zI x4)), some (.int (zI r36))] [] h59
                    refine fx_iload d_MO_inTable_173 rfl ?_
                    refine fx_istore_n (i := 3) (ls2 := [some (.ref 31), some (.int (zI x1)), some (.int (zI (x2 + 1))), some (.int (zI r36)), some (.int (zI x4)), some (.int (zI r36))]) d_MO_inTable_175 rfl (by decide) rfl ?_
                    refine fx_goto (n := 36) d_MO_inTable_176 ?_
                    exact fx_fewer [some (.ref 31), some (.int (zI x1)), some (.int (zI (x2 + 1))), some (.int (zI r36)), some (.int (zI x4)), none] ⟨rfl, rfl, rfl, rfl, rfl, trivial⟩ H
                  · replace H := H.2 z53
                    refine fx_iload_n (i := 3) d_MO_inTable_154 rfl rfl ?_
                    refine fx_goto (n := 160) d_MO_inTable_155 ?_
                    refine fx_callV (M' := M_MO_firstOf) (B' := (0, 0)) (vs := [.int (zI x3)]) (rest := [.int (zI x3), .ref 31]) (c1 := 0) (s1 := 0) (n := 163) d_MO_inTable_160 ca_MO_inTable_289 (at_31 (h := _) hS44) rfl rfl rfl ⟨by decide, by decide⟩ (Nat.le_of_ble_eq_true rfl) (Or.inl rfl) (fx_Mt.mono H fun v h61 hv => ?_)
                    obtain ⟨r63, rfl, e62, H⟩ := hv
                    have hS61 := e62.trans hS44
                    show fx_V l M_MO_inTable (0, 0) Q 0 0 163 [some (.ref 31), some (.int (zI x1)), some (.int (zI (x2 + 1))), some (.int (zI x3)), some (.int (zI x4)), some (.int (zI r36))] [.int (zI r63), .int (zI x3), .ref 31] h61
                    refine fx_callV (M' := M_MO_make) (B' := (0, 0)) (vs := [.int (zI x3), .int (zI r63)]) (rest := []) (c1 := 0) (s1 := 0) (n := 166) d_MO_inTable_163 ca_MO_inTable_152 (at_31 (h := _) hS61) rfl rfl rfl ⟨by decide, by decide⟩ (Nat.le_of_ble_eq_true rfl) (Or.inl rfl) (fx_Mt.mono H fun v h64 hv => ?_)
                    obtain ⟨rfl, e65, H⟩ := hv
                    have hS64 := e65.trans hS61
                    show fx_V l M_MO_inTable (0, 0) Q 0 0 166 [some (.ref 31), some (.int (zI x1)), some (.int (zI (x2 + 1))), some (.int (zI x3)), some (.int (zI x4)), some (.int (zI r36))] [] h64
                    refine fx_aload_n (i := 0) d_MO_inTable_166 rfl rfl ?_
                    refine fx_iload d_MO_inTable_167 rfl ?_
                    refine fx_iload_n (i := 1) d_MO_inTable_169 rfl rfl ?_
                    refine fx_callV (M' := M_MO_storeEntry) (B' := (0, 0)) (vs := [.int (zI r36), .int (zI x1)]) (rest := []) (c1 := 0) (s1 := 0) (n := 173) d_MO_inTable_170 ca_MO_inTable_292 (at_31 (h := _) hS64) rfl rfl rfl ⟨by decide, by decide⟩ (Nat.le_of_ble_eq_true rfl) (Or.inl rfl) (fx_Mt.mono H fun v h66 hv => ?_)
                    obtain ⟨rfl, e67, H⟩ := hv
                    have hS66 := e67.trans hS64
                    show fx_V l M_MO_inTable (0, 0) Q 0 0 173 [some (.ref 31), some (.int (zI x1)), some (.int (zI (x2 + 1))), some (.int (zI x3)), some (.int (zI x4)), some (.int (zI r36))] [] h66
                    refine fx_iload d_MO_inTable_173 rfl ?_
                    refine fx_istore_n (i := 3) (ls2 := [some (.ref 31), some (.int (zI x1)), some (.int (zI (x2 + 1))), some (.int (zI r36)), some (.int (zI x4)), some (.int (zI r36))]) d_MO_inTable_175 rfl (by decide) rfl ?_
                    refine fx_goto (n := 36) d_MO_inTable_176 ?_
                    exact fx_fewer [some (.ref 31), some (.int (zI x1)), some (.int (zI (x2 + 1))), some (.int (zI r36)), some (.int (zI x4)), none] ⟨rfl, rfl, rfl, rfl, rfl, trivial⟩ H
            · replace H := H.2 z43
              refine fx_iconst d_MO_inTable_127 ?_
              refine fx_goto (n := 132) d_MO_inTable_128 ?_
              refine fx_callV (M' := M_MO_need) (B' := (0, 0)) (vs := [.int (zI 1)]) (rest := []) (c1 := 0) (s1 := 0) (n := 135) d_MO_inTable_132 ca_MO_inTable_273 (at_31 (h := _) hS34) rfl rfl rfl ⟨by decide, by decide⟩ (Nat.le_of_ble_eq_true rfl) (Or.inl rfl) (fx_Mt.mono H fun v h68 hv => ?_)
              obtain ⟨r70, rfl, e69, H⟩ := hv
              have hS68 := e69.trans hS34
              show fx_V l M_MO_inTable (0, 0) Q 0 0 135 [some (.ref 31), some (.int (zI x1)), some (.int (zI (x2 + 1))), some (.int (zI x3)), some (.int (zI x4)), some (.int (zI r36))] [.int (zI r70)] h68
              obtain ⟨hz71, H⟩ := H
              refine fx_if_eq (t := 176) (n := 138) d_MO_inTable_135 hz71 (fun z72 => ?_) (fun z72 => ?_)
              · replace H := H.1 z72
                refine fx_goto (n := 36) d_MO_inTable_176 ?_
                exact fx_fewer [some (.ref 31), some (.int (zI x1)), some (.int (zI (x2 + 1))), some (.int (zI x3)), some (.int (zI x4)), none] ⟨rfl, rfl, rfl, rfl, rfl, trivial⟩ H
              · replace H := H.2 z72
                refine fx_iload_n (i := 3) d_MO_inTable_138 rfl rfl ?_
                refine fx_if_lt (t := 166) (n := 142) d_MO_inTable_139 hz40 (fun z73 => ?_) (fun z73 => ?_)
                · replace H := H.1 z73
                  refine fx_aload_n (i := 0) d_MO_inTable_166 rfl rfl ?_
                  refine fx_iload d_MO_inTable_167 rfl ?_
                  refine fx_iload_n (i := 1) d_MO_inTable_169 rfl rfl ?_
                  refine fx_callV (M' := M_MO_storeEntry) (B' := (0, 0)) (vs := [.int (zI r36), .int (zI x1)]) (rest := []) (c1 := 0) (s1 := 0) (n := 173) d_MO_inTable_170 ca_MO_inTable_292 (at_31 (h := _) hS68) rfl rfl rfl ⟨by decide, by decide⟩ (Nat.le_of_ble_eq_true rfl) (Or.inl rfl) (fx_Mt.mono H fun v h74 hv => ?_)
                  obtain ⟨rfl, e75, H⟩ := hv
                  have hS74 := e75.trans hS68
                  show fx_V l M_MO_inTable (0, 0) Q 0 0 173 [some (.ref 31), some (.int (zI x1)), some (.int (zI (x2 + 1))), some (.int (zI x3)), some (.int (zI x4)), some (.int (zI r36))] [] h74
                  refine fx_iload d_MO_inTable_173 rfl ?_
                  refine fx_istore_n (i := 3) (ls2 := [some (.ref 31), some (.int (zI x1)), some (.int (zI (x2 + 1))), some (.int (zI r36)), some (.int (zI x4)), some (.int (zI r36))]) d_MO_inTable_175 rfl (by decide) rfl ?_
                  refine fx_goto (n := 36) d_MO_inTable_176 ?_
                  exact fx_fewer [some (.ref 31), some (.int (zI x1)), some (.int (zI (x2 + 1))), some (.int (zI r36)), some (.int (zI x4)), none] ⟨rfl, rfl, rfl, rfl, rfl, trivial⟩ H
                · replace H := H.2 z73
                  refine fx_aload_n (i := 0) d_MO_inTable_142 rfl rfl ?_
                  refine fx_iload_n (i := 3) d_MO_inTable_143 rfl rfl ?_
                  refine fx_aload_n (i := 0) d_MO_inTable_144 rfl rfl ?_
                  refine fx_iload d_MO_inTable_145 rfl ?_
                  refine fx_aload_n (i := 0) d_MO_inTable_147 rfl rfl ?_
                  refine fx_getI d_MO_inTable_148 lk_MO_141 (at_31 (h := _) hS68) rfl ?_
                  obtain ⟨hz76, H⟩ := H
                  refine fx_icmp_ne (t := 158) (n := 154) d_MO_inTable_151 hz37 hz76 (fun z77 => ?_) (fun z77 => ?_)
                  · replace H := H.1 z77
                    refine fx_iload d_MO_inTable_158 rfl ?_
                    refine fx_callV (M' := M_MO_firstOf) (B' := (0, 0)) (vs := [.int (zI r36)]) (rest := [.int (zI x3), .ref 31]) (c1 := 0) (s1 := 0) (n := 163) d_MO_inTable_160 ca_MO_inTable_289 (at_31 (h := _) hS68) rfl rfl rfl ⟨by decide, by decide⟩ (Nat.le_of_ble_eq_true rfl) (Or.inl rfl) (fx_Mt.mono H fun v h78 hv => ?_)
                    obtain ⟨r80, rfl, e79, H⟩ := hv
                    have hS78 := e79.trans hS68
                    show fx_V l M_MO_inTable (0, 0) Q 0 0 163 [some (.ref 31), some (.int (zI x1)), some (.int (zI (x2 + 1))), some (.int (zI x3)), some (.int (zI x4)), some (.int (zI r36))] [.int (zI r80), .int (zI x3), .ref 31] h78
                    refine fx_callV (M' := M_MO_make) (B' := (0, 0)) (vs := [.int (zI x3), .int (zI r80)]) (rest := []) (c1 := 0) (s1 := 0) (n := 166) d_MO_inTable_163 ca_MO_inTable_152 (at_31 (h := _) hS78) rfl rfl rfl ⟨by decide, by decide⟩ (Nat.le_of_ble_eq_true rfl) (Or.inl rfl) (fx_Mt.mono H fun v h81 hv => ?_)
                    obtain ⟨rfl, e82, H⟩ := hv
                    have hS81 := e82.trans hS78
                    show fx_V l M_MO_inTable (0, 0) Q 0 0 166 [some (.ref 31), some (.int (zI x1)), some (.int (zI (x2 + 1))), some (.int (zI x3)), some (.int (zI x4)), some (.int (zI r36))] [] h81
                    refine fx_aload_n (i := 0) d_MO_inTable_166 rfl rfl ?_
                    refine fx_iload d_MO_inTable_167 rfl ?_
                    refine fx_iload_n (i := 1) d_MO_inTable_169 rfl rfl ?_
                    refine fx_callV (M' := M_MO_storeEntry) (B' := (0, 0)) (vs := [.int (zI r36), .int (zI x1)]) (rest := []) (c1 := 0) (s1 := 0) (n := 173) d_MO_inTable_170 ca_MO_inTable_292 (at_31 (h := _) hS81) rfl rfl rfl ⟨by decide, by decide⟩ (Nat.le_of_ble_eq_true rfl) (Or.inl rfl) (fx_Mt.mono H fun v h83 hv => ?_)
                    obtain ⟨rfl, e84, H⟩ := hv
                    have hS83 := e84.trans hS81
                    show fx_V l M_MO_inTable (0, 0) Q 0 0 173 [some (.ref 31), some (.int (zI x1)), some (.int (zI (x2 + 1))), some (.int (zI x3)), some (.int (zI x4)), some (.int (zI r36))] [] h83
                    refine fx_iload d_MO_inTable_173 rfl ?_
                    refine fx_istore_n (i := 3) (ls2 := [some (.ref 31), some (.int (zI x1)), some (.int (zI (x2 + 1))), some (.int (zI r36)), some (.int (zI x4)), some (.int (zI r36))]) d_MO_inTable_175 rfl (by decide) rfl ?_
                    refine fx_goto (n := 36) d_MO_inTable_176 ?_
                    exact fx_fewer [some (.ref 31), some (.int (zI x1)), some (.int (zI (x2 + 1))), some (.int (zI r36)), some (.int (zI x4)), none] ⟨rfl, rfl, rfl, rfl, rfl, trivial⟩ H
                  · replace H := H.2 z77
                    refine fx_iload_n (i := 3) d_MO_inTable_154 rfl rfl ?_
                    refine fx_goto (n := 160) d_MO_inTable_155 ?_
                    refine fx_callV (M' := M_MO_firstOf) (B' := (0, 0)) (vs := [.int (zI x3)]) (rest := [.int (zI x3), .ref 31]) (c1 := 0) (s1 := 0) (n := 163) d_MO_inTable_160 ca_MO_inTable_289 (at_31 (h := _) hS68) rfl rfl rfl ⟨by decide, by decide⟩ (Nat.le_of_ble_eq_true rfl) (Or.inl rfl) (fx_Mt.mono H fun v h85 hv => ?_)
                    obtain ⟨r87, rfl, e86, H⟩ := hv
                    have hS85 := e86.trans hS68
                    show fx_V l M_MO_inTable (0, 0) Q 0 0 163 [some (.ref 31), some (.int (zI x1)), some (.int (zI (x2 + 1))), some (.int (zI x3)), some (.int (zI x4)), some (.int (zI r36))] [.int (zI r87), .int (zI x3), .ref 31] h85
                    refine fx_callV (M' := M_MO_make) (B' := (0, 0)) (vs := [.int (zI x3), .int (zI r87)]) (rest := []) (c1 := 0) (s1 := 0) (n := 166) d_MO_inTable_163 ca_MO_inTable_152 (at_31 (h := _) hS85) rfl rfl rfl ⟨by decide, by decide⟩ (Nat.le_of_ble_eq_true rfl) (Or.inl rfl) (fx_Mt.mono H fun v h88 hv => ?_)
                    obtain ⟨rfl, e89, H⟩ := hv
                    have hS88 := e89.trans hS85
                    show fx_V l M_MO_inTable (0, 0) Q 0 0 166 [some (.ref 31), some (.int (zI x1)), some (.int (zI (x2 + 1))), some (.int (zI x3)), some (.int (zI x4)), some (.int (zI r36))] [] h88
                    refine fx_aload_n (i := 0) d_MO_inTable_166 rfl rfl ?_
                    refine fx_iload d_MO_inTable_167 rfl ?_
                    refine fx_iload_n (i := 1) d_MO_inTable_169 rfl rfl ?_
                    refine fx_callV (M' := M_MO_storeEntry) (B' := (0, 0)) (vs := [.int (zI r36), .int (zI x1)]) (rest := []) (c1 := 0) (s1 := 0) (n := 173) d_MO_inTable_170 ca_MO_inTable_292 (at_31 (h := _) hS88) rfl rfl rfl ⟨by decide, by decide⟩ (Nat.le_of_ble_eq_true rfl) (Or.inl rfl) (fx_Mt.mono H fun v h90 hv => ?_)
                    obtain ⟨rfl, e91, H⟩ := hv
                    have hS90 := e91.trans hS88
                    show fx_V l M_MO_inTable (0, 0) Q 0 0 173 [some (.ref 31), some (.int (zI x1)), some (.int (zI (x2 + 1))), some (.int (zI x3)), some (.int (zI x4)), some (.int (zI r36))] [] h90
                    refine fx_iload d_MO_inTable_173 rfl ?_
                    refine fx_istore_n (i := 3) (ls2 := [some (.ref 31), some (.int (zI x1)), some (.int (zI (x2 + 1))), some (.int (zI r36)), some (.int (zI x4)), some (.int (zI r36))]) d_MO_inTable_175 rfl (by decide) rfl ?_
                    refine fx_goto (n := 36) d_MO_inTable_176 ?_
                    exact fx_fewer [some (.ref 31), some (.int (zI x1)), some (.int (zI (x2 + 1))), some (.int (zI r36)), some (.int (zI x4)), none] ⟨rfl, rfl, rfl, rfl, rfl, trivial⟩ H
          · replace H := H.2 z41
            refine fx_iload d_MO_inTable_102 rfl ?_
            refine fx_sipush (v := 256) d_MO_inTable_104 rfl ?_
            refine fx_icmp_ge (t := 114) (n := 110) d_MO_inTable_107 hz37 (show zR 256 by decide) (fun z92 => ?_) (fun z92 => ?_)
            · replace H := H.1 z92
              refine fx_iconst d_MO_inTable_114 ?_
              refine fx_goto (n := 132) d_MO_inTable_115 ?_
              refine fx_callV (M' := M_MO_need) (B' := (0, 0)) (vs := [.int (zI 0)]) (rest := []) (c1 := 0) (s1 := 0) (n := 135) d_MO_inTable_132 ca_MO_inTable_273 (at_31 (h := _) hS34) rfl rfl rfl ⟨by decide, by decide⟩ (Nat.le_of_ble_eq_true rfl) (Or.inl rfl) (fx_Mt.mono H fun v h93 hv => ?_)
              obtain ⟨r95, rfl, e94, H⟩ := hv
              have hS93 := e94.trans hS34
              show fx_V l M_MO_inTable (0, 0) Q 0 0 135 [some (.ref 31), some (.int (zI x1)), some (.int (zI (x2 + 1))), some (.int (zI x3)), some (.int (zI x4)), some (.int (zI r36))] [.int (zI r95)] h93
              obtain ⟨hz96, H⟩ := H
              refine fx_if_eq (t := 176) (n := 138) d_MO_inTable_135 hz96 (fun z97 => ?_) (fun z97 => ?_)
              · replace H := H.1 z97
                refine fx_goto (n := 36) d_MO_inTable_176 ?_
                exact fx_fewer [some (.ref 31), some (.int (zI x1)), some (.int (zI (x2 + 1))), some (.int (zI x3)), some (.int (zI x4)), none] ⟨rfl, rfl, rfl, rfl, rfl, trivial⟩ H
              · replace H := H.2 z97
                refine fx_iload_n (i := 3) d_MO_inTable_138 rfl rfl ?_
                refine fx_if_lt (t := 166) (n := 142) d_MO_inTable_139 hz40 (fun z98 => ?_) (fun z98 => ?_)
                · replace H := H.1 z98
                  refine fx_aload_n (i := 0) d_MO_inTable_166 rfl rfl ?_
                  refine fx_iload d_MO_inTable_167 rfl ?_
                  refine fx_iload_n (i := 1) d_MO_inTable_169 rfl rfl ?_
                  refine fx_callV (M' := M_MO_storeEntry) (B' := (0, 0)) (vs := [.int (zI r36), .int (zI x1)]) (rest := []) (c1 := 0) (s1 := 0) (n := 173) d_MO_inTable_170 ca_MO_inTable_292 (at_31 (h := _) hS93) rfl rfl rfl ⟨by decide, by decide⟩ (Nat.le_of_ble_eq_true rfl) (Or.inl rfl) (fx_Mt.mono H fun v h99 hv => ?_)
                  obtain ⟨rfl, e100, H⟩ := hv
                  have hS99 := e100.trans hS93
                  show fx_V l M_MO_inTable (0, 0) Q 0 0 173 [some (.ref 31), some (.int (zI x1)), some (.int (zI (x2 + 1))), some (.int (zI x3)), some (.int (zI x4)), some (.int (zI r36))] [] h99
                  refine fx_iload d_MO_inTable_173 rfl ?_
                  refine fx_istore_n (i := 3) (ls2 := [some (.ref 31), some (.int (zI x1)), some (.int (zI (x2 + 1))), some (.int (zI r36)), some (.int (zI x4)), some (.int (zI r36))]) d_MO_inTable_175 rfl (by decide) rfl ?_
                  refine fx_goto (n := 36) d_MO_inTable_176 ?_
                  exact fx_fewer [some (.ref 31), some (.int (zI x1)), some (.int (zI (x2 + 1))), some (.int (zI r36)), some (.int (zI x4)), none] ⟨rfl, rfl, rfl, rfl, rfl, trivial⟩ H
                · replace H := H.2 z98
                  refine fx_aload_n (i := 0) d_MO_inTable_142 rfl rfl ?_
                  refine fx_iload_n (i := 3) d_MO_inTable_143 rfl rfl ?_
                  refine fx_aload_n (i := 0) d_MO_inTable_144 rfl rfl ?_
                  refine fx_iload d_MO_inTable_145 rfl ?_
                  refine fx_aload_n (i := 0) d_MO_inTable_147 rfl rfl ?_
                  refine fx_getI d_MO_inTable_148 lk_MO_141 (at_31 (h := _) hS93) rfl ?_
                  obtain ⟨hz101, H⟩ := H
                  refine fx_icmp_ne (t := 158) (n := 154) d_MO_inTable_151 hz37 hz101 (fun z102 => ?_) (fun z102 => ?_)
                  · replace H := H.1 z102
                    refine fx_iload d_MO_inTable_158 rfl ?_
                    refine fx_callV (M' := M_MO_firstOf) (B' := (0, 0)) (vs := [.int (zI r36)]) (rest := [.int (zI x3), .ref 31]) (c1 := 0) (s1 := 0) (n := 163) d_MO_inTable_160 ca_MO_inTable_289 (at_31 (h := _) hS93) rfl rfl rfl ⟨by decide, by decide⟩ (Nat.le_of_ble_eq_true rfl) (Or.inl rfl) (fx_Mt.mono H fun v h103 hv => ?_)
                    obtain ⟨r105, rfl, e104, H⟩ := hv
                    have hS103 := e104.trans hS93
                    show fx_V l M_MO_inTable (0, 0) Q 0 0 163 [some (.ref 31), some (.int (zI x1)), some (.int (zI (x2 + 1))), some (.int (zI x3)), some (.int (zI x4)), some (.int (zI r36))] [.int (zI r105), .int (zI x3), .ref 31] h103
                    refine fx_callV (M' := M_MO_make) (B' := (0, 0)) (vs := [.int (zI x3), .int (zI r105)]) (rest := []) (c1 := 0) (s1 := 0) (n := 166) d_MO_inTable_163 ca_MO_inTable_152 (at_31 (h := _) hS103) rfl rfl rfl ⟨by decide, by decide⟩ (Nat.le_of_ble_eq_true rfl) (Or.inl rfl) (fx_Mt.mono H fun v h106 hv => ?_)
                    obtain ⟨rfl, e107, H⟩ := hv
                    have hS106 := e107.trans hS103
                    show fx_V l M_MO_inTable (0, 0) Q 0 0 166 [some (.ref 31), some (.int (zI x1)), some (.int (zI (x2 + 1))), some (.int (zI x3)), some (.int (zI x4)), some (.int (zI r36))] [] h106
                    refine fx_aload_n (i := 0) d_MO_inTable_166 rfl rfl ?_
                    refine fx_iload d_MO_inTable_167 rfl ?_
                    refine fx_iload_n (i := 1) d_MO_inTable_169 rfl rfl ?_
                    refine fx_callV (M' := M_MO_storeEntry) (B' := (0, 0)) (vs := [.int (zI r36), .int (zI x1)]) (rest := []) (c1 := 0) (s1 := 0) (n := 173) d_MO_inTable_170 ca_MO_inTable_292 (at_31 (h := _) hS106) rfl rfl rfl ⟨by decide, by decide⟩ (Nat.le_of_ble_eq_true rfl) (Or.inl rfl) (fx_Mt.mono H fun v h108 hv => ?_)
                    obtain ⟨rfl, e109, H⟩ := hv
                    have hS108 := e109.trans hS106
                    show fx_V l M_MO_inTable (0, 0) Q 0 0 173 [some (.ref 31), some (.int (zI x1)), some (.int (zI (x2 + 1))), some (.int (zI x3)), some (.int (zI x4)), some (.int (zI r36))] [] h108
                    refine fx_iload d_MO_inTable_173 rfl ?_
                    refine fx_istore_n (i := 3) (ls2 := [some (.ref 31), some (.int (zI x1)), some (.int (zI (x2 + 1))), some (.int (zI r36)), some (.int (zI x4)), some (.int (zI r36))]) d_MO_inTable_175 rfl (by decide) rfl ?_
                    refine fx_goto (n := 36) d_MO_inTable_176 ?_
                    exact fx_fewer [some (.ref 31), some (.int (zI x1)), some (.int (zI (x2 + 1))), some (.int (zI r36)), some (.int (zI x4)), none] ⟨rfl, rfl, rfl, rfl, rfl, trivial⟩ H
                  · replace H := H.2 z102
                    refine fx_iload_n (i := 3) d_MO_inTable_154 rfl rfl ?_
                    refine fx_goto (n := 160) d_MO_inTable_155 ?_
                    refine fx_callV (M' := M_MO_firstOf) (B' := (0, 0)) (vs := [.int (zI x3)]) (rest := [.int (zI x3), .ref 31]) (c1 := 0) (s1 := 0) (n := 163) d_MO_inTable_160 ca_MO_inTable_289 (at_31 (h := _) hS93) rfl rfl rfl ⟨by decide, by decide⟩ (Nat.le_of_ble_eq_true rfl) (Or.inl rfl) (fx_Mt.mono H fun v h110 hv => ?_)
                    obtain ⟨r112, rfl, e111, H⟩ := hv
                    have hS110 := e111.trans hS93
                    show fx_V l M_MO_inTable (0, 0) Q 0 0 163 [some (.ref 31), some (.int (zI x1)), some (.int (zI (x2 + 1))), some (.int (zI x3)), some (.int (zI x4)), some (.int (zI r36))] [.int (zI r112), .int (zI x3), .ref 31] h110
                    refine fx_callV (M' := M_MO_make) (B' := (0, 0)) (vs := [.int (zI x3), .int (zI r112)]) (rest := []) (c1 := 0) (s1 := 0) (n := 166) d_MO_inTable_163 ca_MO_inTable_152 (at_31 (h := _) hS110) rfl rfl rfl ⟨by decide, by decide⟩ (Nat.le_of_ble_eq_true rfl) (Or.inl rfl) (fx_Mt.mono H fun v h113 hv => ?_)
                    obtain ⟨rfl, e114, H⟩ := hv
                    have hS113 := e114.trans hS110
                    show fx_V l M_MO_inTable (0, 0) Q 0 0 166 [some (.ref 31), some (.int (zI x1)), some (.int (zI (x2 + 1))), some (.int (zI x3)), some (.int (zI x4)), some (.int (zI r36))] [] h113
                    refine fx_aload_n (i := 0) d_MO_inTable_166 rfl rfl ?_
                    refine fx_iload d_MO_inTable_167 rfl ?_
                    refine fx_iload_n (i := 1) d_MO_inTable_169 rfl rfl ?_
                    refine fx_callV (M' := M_MO_storeEntry) (B' := (0, 0)) (vs := [.int (zI r36), .int (zI x1)]) (rest := []) (c1 := 0) (s1 := 0) (n := 173) d_MO_inTable_170 ca_MO_inTable_292 (at_31 (h := _) hS113) rfl rfl rfl ⟨by decide, by decide⟩ (Nat.le_of_ble_eq_true rfl) (Or.inl rfl) (fx_Mt.mono H fun v h115 hv => ?_)
                    obtain ⟨rfl, e116, H⟩ := hv
                    have hS115 := e116.trans hS113
                    show fx_V l M_MO_inTable (0, 0) Q 0 0 173 [some (.ref 31), some (.int (zI x1)), some (.int (zI (x2 + 1))), some (.int (zI x3)), some (.int (zI x4)), some (.int (zI r36))] [] h115
                    refine fx_iload d_MO_inTable_173 rfl ?_
                    refine fx_istore_n (i := 3) (ls2 := [some (.ref 31), some (.int (zI x1)), some (.int (zI (x2 + 1))), some (.int (zI r36)), some (.int (zI x4)), some (.int (zI r36))]) d_MO_inTable_175 rfl (by decide) rfl ?_
                    refine fx_goto (n := 36) d_MO_inTable_176 ?_
                    exact fx_fewer [some (.ref 31), some (.int (zI x1)), some (.int (zI (x2 + 1))), some (.int (zI r36)), some (.int (zI x4)), none] ⟨rfl, rfl, rfl, rfl, rfl, trivial⟩ H
            · replace H := H.2 z92
              refine fx_iconst d_MO_inTable_110 ?_
              refine fx_goto (n := 132) d_MO_inTable_111 ?_
              refine fx_callV (M' := M_MO_need) (B' := (0, 0)) (vs := [.int (zI 1)]) (rest := []) (c1 := 0) (s1 := 0) (n := 135) d_MO_inTable_132 ca_MO_inTable_273 (at_31 (h := _) hS34) rfl rfl rfl ⟨by decide, by decide⟩ (Nat.le_of_ble_eq_true rfl) (Or.inl rfl) (fx_Mt.mono H fun v h117 hv => ?_)
              obtain ⟨r119, rfl, e118, H⟩ := hv
              have hS117 := e118.trans hS34
              show fx_V l M_MO_inTable (0, 0) Q 0 0 135 [some (.ref 31), some (.int (zI x1)), some (.int (zI (x2 + 1))), some (.int (zI x3)), some (.int (zI x4)), some (.int (zI r36))] [.int (zI r119)] h117
              obtain ⟨hz120, H⟩ := H
              refine fx_if_eq (t := 176) (n := 138) d_MO_inTable_135 hz120 (fun z121 => ?_) (fun z121 => ?_)
              · replace H := H.1 z121
                refine fx_goto (n := 36) d_MO_inTable_176 ?_
                exact fx_fewer [some (.ref 31), some (.int (zI x1)), some (.int (zI (x2 + 1))), some (.int (zI x3)), some (.int (zI x4)), none] ⟨rfl, rfl, rfl, rfl, rfl, trivial⟩ H
              · replace H := H.2 z121
                refine fx_iload_n (i := 3) d_MO_inTable_138 rfl rfl ?_
                refine fx_if_lt (t := 166) (n := 142) d_MO_inTable_139 hz40 (fun z122 => ?_) (fun z122 => ?_)
                · replace H := H.1 z122
                  refine fx_aload_n (i := 0) d_MO_inTable_166 rfl rfl ?_
                  refine fx_iload d_MO_inTable_167 rfl ?_
                  refine fx_iload_n (i := 1) d_MO_inTable_169 rfl rfl ?_
                  refine fx_callV (M' := M_MO_storeEntry) (B' := (0, 0)) (vs := [.int (zI r36), .int (zI x1)]) (rest := []) (c1 := 0) (s1 := 0) (n := 173) d_MO_inTable_170 ca_MO_inTable_292 (at_31 (h := _) hS117) rfl rfl rfl ⟨by decide, by decide⟩ (Nat.le_of_ble_eq_true rfl) (Or.inl rfl) (fx_Mt.mono H fun v h123 hv => ?_)
                  obtain ⟨rfl, e124, H⟩ := hv
                  have hS123 := e124.trans hS117
                  show fx_V l M_MO_inTable (0, 0) Q 0 0 173 [some (.ref 31), some (.int (zI x1)), some (.int (zI (x2 + 1))), some (.int (zI x3)), some (.int (zI x4)), some (.int (zI r36))] [] h123
                  refine fx_iload d_MO_inTable_173 rfl ?_
                  refine fx_istore_n (i := 3) (ls2 := [some (.ref 31), some (.int (zI x1)), some (.int (zI (x2 + 1))), some (.int (zI r36)), some (.int (zI x4)), some (.int (zI r36))]) d_MO_inTable_175 rfl (by decide) rfl ?_
                  refine fx_goto (n := 36) d_MO_inTable_176 ?_
                  exact fx_fewer [some (.ref 31), some (.int (zI x1)), some (.int (zI (x2 + 1))), some (.int (zI r36)), some (.int (zI x4)), none] ⟨rfl, rfl, rfl, rfl, rfl, trivial⟩ H
                · replace H := H.2 z122
                  refine fx_aload_n (i := 0) d_MO_inTable_142 rfl rfl ?_
                  refine fx_iload_n (i := 3) d_MO_inTable_143 rfl rfl ?_
                  refine fx_aload_n (i := 0) d_MO_inTable_144 rfl rfl ?_
                  refine fx_iload d_MO_inTable_145 rfl ?_
                  refine fx_aload_n (i := 0) d_MO_inTable_147 rfl rfl ?_
                  refine fx_getI d_MO_inTable_148 lk_MO_141 (at_31 (h := _) hS117) rfl ?_
                  obtain ⟨hz125, H⟩ := H
                  refine fx_icmp_ne (t := 158) (n := 154) d_MO_inTable_151 hz37 hz125 (fun z126 => ?_) (fun z126 => ?_)
                  · replace H := H.1 z126
                    refine fx_iload d_MO_inTable_158 rfl ?_
                    refine fx_callV (M' := M_MO_firstOf) (B' := (0, 0)) (vs := [.int (zI r36)]) (rest := [.int (zI x3), .ref 31]) (c1 := 0) (s1 := 0) (n := 163) d_MO_inTable_160 ca_MO_inTable_289 (at_31 (h := _) hS117) rfl rfl rfl ⟨by decide, by decide⟩ (Nat.le_of_ble_eq_true rfl) (Or.inl rfl) (fx_Mt.mono H fun v h127 hv => ?_)
                    obtain ⟨r129, rfl, e128, H⟩ := hv
                    have hS127 := e128.trans hS117
                    show fx_V l M_MO_inTable (0, 0) Q 0 0 163 [some (.ref 31), some (.int (zI x1)), some (.int (zI (x2 + 1))), some (.int (zI x3)), some (.int (zI x4)), some (.int (zI r36))] [.int (zI r129), .int (zI x3), .ref 31] h127
                    refine fx_callV (M' := M_MO_make) (B' := (0, 0)) (vs := [.int (zI x3), .int (zI r129)]) (rest := []) (c1 := 0) (s1 := 0) (n := 166) d_MO_inTable_163 ca_MO_inTable_152 (at_31 (h := _) hS127) rfl rfl rfl ⟨by decide, by decide⟩ (Nat.le_of_ble_eq_true rfl) (Or.inl rfl) (fx_Mt.mono H fun v h130 hv => ?_)
                    obtain ⟨rfl, e131, H⟩ := hv
                    have hS130 := e131.trans hS127
                    show fx_V l M_MO_inTable (0, 0) Q 0 0 166 [some (.ref 31), some (.int (zI x1)), some (.int (zI (x2 + 1))), some (.int (zI x3)), some (.int (zI x4)), some (.int (zI r36))] [] h130
                    refine fx_aload_n (i := 0) d_MO_inTable_166 rfl rfl ?_
                    refine fx_iload d_MO_inTable_167 rfl ?_
                    refine fx_iload_n (i := 1) d_MO_inTable_169 rfl rfl ?_
                    refine fx_callV (M' := M_MO_storeEntry) (B' := (0, 0)) (vs := [.int (zI r36), .int (zI x1)]) (rest := []) (c1 := 0) (s1 := 0) (n := 173) d_MO_inTable_170 ca_MO_inTable_292 (at_31 (h := _) hS130) rfl rfl rfl ⟨by decide, by decide⟩ (Nat.le_of_ble_eq_true rfl) (Or.inl rfl) (fx_Mt.mono H fun v h132 hv => ?_)
                    obtain ⟨rfl, e133, H⟩ := hv
                    have hS132 := e133.trans hS130
                    show fx_V l M_MO_inTable (0, 0) Q 0 0 173 [some (.ref 31), some (.int (zI x1)), some (.int (zI (x2 + 1))), some (.int (zI x3)), some (.int (zI x4)), some (.int (zI r36))] [] h132
                    refine fx_iload d_MO_inTable_173 rfl ?_
                    refine fx_istore_n (i := 3) (ls2 := [some (.ref 31), some (.int (zI x1)), some (.int (zI (x2 + 1))), some (.int (zI r36)), some (.int (zI x4)), some (.int (zI r36))]) d_MO_inTable_175 rfl (by decide) rfl ?_
                    refine fx_goto (n := 36) d_MO_inTable_176 ?_
                    exact fx_fewer [some (.ref 31), some (.int (zI x1)), some (.int (zI (x2 + 1))), some (.int (zI r36)), some (.int (zI x4)), none] ⟨rfl, rfl, rfl, rfl, rfl, trivial⟩ H
                  · replace H := H.2 z126
                    refine fx_iload_n (i := 3) d_MO_inTable_154 rfl rfl ?_
                    refine fx_goto (n := 160) d_MO_inTable_155 ?_
                    refine fx_callV (M' := M_MO_firstOf) (B' := (0, 0)) (vs := [.int (zI x3)]) (rest := [.int (zI x3), .ref 31]) (c1 := 0) (s1 := 0) (n := 163) d_MO_inTable_160 ca_MO_inTable_289 (at_31 (h := _) hS117) rfl rfl rfl ⟨by decide, by decide⟩ (Nat.le_of_ble_eq_true rfl) (Or.inl rfl) (fx_Mt.mono H fun v h134 hv => ?_)
                    obtain ⟨r136, rfl, e135, H⟩ := hv
                    have hS134 := e135.trans hS117
                    show fx_V l M_MO_inTable (0, 0) Q 0 0 163 [some (.ref 31), some (.int (zI x1)), some (.int (zI (x2 + 1))), some (.int (zI x3)), some (.int (zI x4)), some (.int (zI r36))] [.int (zI r136), .int (zI x3), .ref 31] h134
                    refine fx_callV (M' := M_MO_make) (B' := (0, 0)) (vs := [.int (zI x3), .int (zI r136)]) (rest := []) (c1 := 0) (s1 := 0) (n := 166) d_MO_inTable_163 ca_MO_inTable_152 (at_31 (h := _) hS134) rfl rfl rfl ⟨by decide, by decide⟩ (Nat.le_of_ble_eq_true rfl) (Or.inl rfl) (fx_Mt.mono H fun v h137 hv => ?_)
                    obtain ⟨rfl, e138, H⟩ := hv
                    have hS137 := e138.trans hS134
                    show fx_V l M_MO_inTable (0, 0) Q 0 0 166 [some (.ref 31), some (.int (zI x1)), some (.int (zI (x2 + 1))), some (.int (zI x3)), some (.int (zI x4)), some (.int (zI r36))] [] h137
                    refine fx_aload_n (i := 0) d_MO_inTable_166 rfl rfl ?_
                    refine fx_iload d_MO_inTable_167 rfl ?_
                    refine fx_iload_n (i := 1) d_MO_inTable_169 rfl rfl ?_
                    refine fx_callV (M' := M_MO_storeEntry) (B' := (0, 0)) (vs := [.int (zI r36), .int (zI x1)]) (rest := []) (c1 := 0) (s1 := 0) (n := 173) d_MO_inTable_170 ca_MO_inTable_292 (at_31 (h := _) hS137) rfl rfl rfl ⟨by decide, by decide⟩ (Nat.le_of_ble_eq_true rfl) (Or.inl rfl) (fx_Mt.mono H fun v h139 hv => ?_)
                    obtain ⟨rfl, e140, H⟩ := hv
                    have hS139 := e140.trans hS137
                    show fx_V l M_MO_inTable (0, 0) Q 0 0 173 [some (.ref 31), some (.int (zI x1)), some (.int (zI (x2 + 1))), some (.int (zI x3)), some (.int (zI x4)), some (.int (zI r36))] [] h139
                    refine fx_iload d_MO_inTable_173 rfl ?_
                    refine fx_istore_n (i := 3) (ls2 := [some (.ref 31), some (.int (zI x1)), some (.int (zI (x2 + 1))), some (.int (zI r36)), some (.int (zI x4)), some (.int (zI r36))]) d_MO_inTable_175 rfl (by decide) rfl ?_
                    refine fx_goto (n := 36) d_MO_inTable_176 ?_
                    exact fx_fewer [some (.ref 31), some (.int (zI x1)), some (.int (zI (x2 + 1))), some (.int (zI r36)), some (.int (zI x4)), none] ⟨rfl, rfl, rfl, rfl, rfl, trivial⟩ H
        · replace H := H.2 z39
          refine fx_iconst d_MO_inTable_91 ?_
          refine fx_istore (ls2 := [some (.ref 31), some (.int (zI x1)), some (.int (zI (x2 + 1))), some (.int (zI x3)), some (.int (zI 0)), some (.int (zI r36))]) d_MO_inTable_92 (by decide) rfl ?_
          refine fx_goto (n := 176) d_MO_inTable_94 ?_
          refine fx_goto (n := 36) d_MO_inTable_176 ?_
          exact fx_fewer [some (.ref 31), some (.int (zI x1)), some (.int (zI (x2 + 1))), some (.int (zI x3)), some (.int (zI 0)), none] ⟨rfl, rfl, rfl, rfl, rfl, trivial⟩ H
      · replace H := H.2 z38
        refine fx_iconst d_MO_inTable_69 ?_
        refine fx_istore_n (i := 2) (ls2 := [some (.ref 31), some (.int (zI x1)), some (.int (zI 0)), some (.int (zI x3)), some (.int (zI x4)), some (.int (zI r36))]) d_MO_inTable_70 rfl (by decide) rfl ?_
        refine fx_iconst d_MO_inTable_71 ?_
        refine fx_istore_n (i := 3) (ls2 := [some (.ref 31), some (.int (zI x1)), some (.int (zI 0)), some (.int (zI (-1))), some (.int (zI x4)), some (.int (zI r36))]) d_MO_inTable_72 rfl (by decide) rfl ?_
        refine fx_aload_n (i := 0) d_MO_inTable_73 rfl rfl ?_
        refine fx_sipush (v := 258) d_MO_inTable_74 rfl ?_
        refine fx_putI d_MO_inTable_77 lk_MO_141 (at_31 (h := _) hS34) rfl rfl rfl ?_
        refine fx_goto (n := 176) d_MO_inTable_80 ?_
        refine fx_goto (n := 36) d_MO_inTable_176 ?_
        exact fx_fewer [some (.ref 31), some (.int (zI x1)), some (.int (zI 0)), some (.int (zI (-1))), some (.int (zI x4)), none] ⟨rfl, rfl, rfl, rfl, rfl, trivial⟩ H

set_option maxRecDepth 100000 in
set_option maxHeartbeats 4000000 in
theorem e_MO_firstOf {l : Launch} {Q : Option Value → fx_H → Prop} {h : fx_H}  {x : Int}  {a : Nat → Nat} {pp dd : Nat} (hS : h.1 = fx_S0 a pp dd) 
    (H : (fx_V l M_MO_firstOf (0, 0) Q 0 0 2 [some (.ref 31), none, some (.int (zI x))] [] h)) :
    fx_Mt l M_MO_firstOf (0, 0) [.ref 31, .int (zI x)] h Q := by
  refine fx_entry (ls := [some (.ref 31), some (.int (zI x)), none]) (by decide) (Nat.le_of_ble_eq_true rfl) rfl ?_
  refine fx_iload_n (i := 1) d_MO_firstOf_0 rfl rfl ?_
  refine fx_istore_n (i := 2) (ls2 := [some (.ref 31), some (.int (zI x)), some (.int (zI x))]) d_MO_firstOf_1 rfl (by decide) rfl ?_
  exact fx_fewer [some (.ref 31), none, some (.int (zI x))] ⟨rfl, rfl, trivial⟩ H

set_option maxRecDepth 100000 in
set_option maxHeartbeats 4000000 in
theorem w_MO_firstOf_2 {l : Launch} {Q : Option Value → fx_H → Prop} {h : fx_H}  {x2 : Int}  {a : Nat → Nat} {pp dd : Nat} (hS : h.1 = fx_S0 a pp dd) 
    (H : zR x2 ∧ ((x2 ≤ 255 → Q (some (.int (zI x2))) h) ∧ (¬ (x2 ≤ 255) → 0 ≤ x2 ∧ x2 < 700 ∧ (fx_V l M_MO_firstOf (0, 0) Q 0 0 2 [some (.ref 31), none, some (.int (zI (h.2.2.1 39 (x2.toNat))))] [] h)))) :
    fx_V l M_MO_firstOf (0, 0) Q 0 0 2 [some (.ref 31), none, some (.int (zI x2))] [] h := by
  refine fx_iload_n (i := 2) d_MO_firstOf_2 rfl rfl ?_
  refine fx_sipush (v := 255) d_MO_firstOf_3 rfl ?_
  obtain ⟨hz1, H⟩ := H
  refine fx_icmp_le (t := 19) (n := 9) d_MO_firstOf_6 hz1 (show zR 255 by decide) (fun z2 => ?_) (fun z2 => ?_)
  · replace H := H.1 z2
    refine fx_iload_n (i := 2) d_MO_firstOf_19 rfl rfl ?_
    exact fx_end (some (.int (zI x2))) ⟨⟨_, rfl, rfl⟩, d_MO_firstOf_20⟩ (Nat.le_refl _) (Nat.le_refl _) rfl H
  · replace H := H.2 z2
    refine fx_aload_n (i := 0) d_MO_firstOf_9 rfl rfl ?_
    refine fx_getR (q := 39) d_MO_firstOf_10 lk_MO_50 (at_31 (h := _) hS) rfl rfl ?_
    refine fx_iload_n (i := 2) d_MO_firstOf_13 rfl rfl ?_
    obtain ⟨hn3, H⟩ := H
    obtain ⟨hn4, H⟩ := H
    refine fx_iald d_MO_firstOf_14 (at_39 (h := _) hS) hn3 hn4 (by decide) ?_
    refine fx_istore_n (i := 2) (ls2 := [some (.ref 31), none, some (.int (zI (h.2.2.1 39 (x2.toNat))))]) d_MO_firstOf_15 rfl (by decide) rfl ?_
    refine fx_goto (n := 2) d_MO_firstOf_16 ?_
    exact H

set_option maxRecDepth 100000 in
set_option maxHeartbeats 4000000 in
theorem e_MO_storeEntry {l : Launch} {Q : Option Value → fx_H → Prop} {h : fx_H}  {x : Int} {y : Int}  {a : Nat → Nat} {pp dd : Nat} (hS : h.1 = fx_S0 a pp dd) 
    (H : (fx_V l M_MO_storeEntry (0, 0) Q 0 0 5 [some (.ref 31), some (.int (zI x)), some (.int (zI y)), some (.int (zI 1)), some (.int (zI x)), none] [] h)) :
    fx_Mt l M_MO_storeEntry (0, 0) [.ref 31, .int (zI x), .int (zI y)] h Q := by
  refine fx_entry (ls := [some (.ref 31), some (.int (zI x)), some (.int (zI y)), none, none, none]) (by decide) (Nat.le_of_ble_eq_true rfl) rfl ?_
  refine fx_iconst d_MO_storeEntry_0 ?_
  refine fx_istore_n (i := 3) (ls2 := [some (.ref 31), some (.int (zI x)), some (.int (zI y)), some (.int (zI 1)), none, none]) d_MO_storeEntry_1 rfl (by decide) rfl ?_
  refine fx_iload_n (i := 1) d_MO_storeEntry_2 rfl rfl ?_
  refine fx_istore (ls2 := [some (.ref 31), some (.int (zI x)), some (.int (zI y)), some (.int (zI 1)), some (.int (zI x)), none]) d_MO_storeEntry_3 (by decide) rfl ?_
  exact H

set_option maxRecDepth 100000 in
set_option maxHeartbeats 4000000 in
theorem w_MO_storeEntry_5 {l : Launch} {Q : Option Value → fx_H → Prop} {h : fx_H}  {x1 : Int} {x2 : Int} {x3 : Int} {x4 : Int}  {a : Nat → Nat} {pp dd : Nat} (hS : h.1 = fx_S0 a pp dd) 
    (H : zR x4 ∧ ((x4 ≤ 255 → zR ((h.2.1 31 27) + x3) ∧ zR x2 ∧ ((x2 < ((h.2.1 31 27) + x3) → fx_Mt l M_MO_need (0, 0) [.ref 31, .int (zI 0)] h (fun v h6 => ∃ r8 : Int, v = some (.int (zI r8)) ∧ h6.1 = h.1 ∧ zR r8 ∧ ((¬ r8 = 0 → (fx_V l M_MO_storeEntry (0, 0) Q 0 0 59 [some (.ref 31), none, none, some (.int (zI x3)), some (.int (zI x1)), some (.int (zI (x3 - 1)))] [] h6)) ∧ (r8 = 0 → Q none h6)))) ∧ (¬ (x2 < ((h.2.1 31 27) + x3)) → fx_Mt l M_MO_need (0, 0) [.ref 31, .int (zI 1)] h (fun v h11 => ∃ r13 : Int, v = some (.int (zI r13)) ∧ h11.1 = h.1 ∧ zR r13 ∧ ((¬ r13 = 0 → (fx_V l M_MO_storeEntry (0, 0) Q 0 0 59 [some (.ref 31), none, none, some (.int (zI x3)), some (.int (zI x1)), some (.int (zI (x3 - 1)))] [] h11)) ∧ (r13 = 0 → Q none h11)))))) ∧ (¬ (x4 ≤ 255) → 0 ≤ x4 ∧ x4 < 700 ∧ (fx_V l M_MO_storeEntry (0, 0) Q 0 0 5 [some (.ref 31), some (.int (zI x1)), some (.int (zI x2)), some (.int (zI (x3 + 1))), some (.int (zI (h.2.2.1 39 (x4.toNat)))), none] [] h)))) :
    fx_V l M_MO_storeEntry (0, 0) Q 0 0 5 [some (.ref 31), some (.int (zI x1)), some (.int (zI x2)), some (.int (zI x3)), some (.int (zI x4)), none] [] h := by
  refine fx_iload d_MO_storeEntry_5 rfl ?_
  refine fx_sipush (v := 255) d_MO_storeEntry_7 rfl ?_
  obtain ⟨hz1, H⟩ := H
  refine fx_icmp_le (t := 28) (n := 13) d_MO_storeEntry_10 hz1 (show zR 255 by decide) (fun z2 => ?_) (fun z2 => ?_)
  · replace H := H.1 z2
    refine fx_aload_n (i := 0) d_MO_storeEntry_28 rfl rfl ?_
    refine fx_aload_n (i := 0) d_MO_storeEntry_29 rfl rfl ?_
    refine fx_getI d_MO_storeEntry_30 lk_MO_134 (at_31 (h := _) hS) rfl ?_
    refine fx_iload_n (i := 3) d_MO_storeEntry_33 rfl rfl ?_
    refine fx_iadd d_MO_storeEntry_34 ?_
    refine fx_iload_n (i := 2) d_MO_storeEntry_35 rfl rfl ?_
    obtain ⟨hz3, H⟩ := H
    obtain ⟨hz4, H⟩ := H
    refine fx_icmp_gt (t := 43) (n := 39) d_MO_storeEntry_36 hz3 hz4 (fun z5 => ?_) (fun z5 => ?_)
    · replace H := H.1 z5
      refine fx_iconst d_MO_storeEntry_43 ?_
      refine fx_callV (M' := M_MO_need) (B' := (0, 0)) (vs := [.int (zI 0)]) (rest := []) (c1 := 0) (s1 := 0) (n := 47) d_MO_storeEntry_44 ca_MO_storeEntry_273 (at_31 (h := _) hS) rfl rfl rfl ⟨by decide, by decide⟩ (Nat.le_of_ble_eq_true rfl) (Or.inl rfl) (fx_Mt.mono H fun v h6 hv => ?_)
      obtain ⟨r8, rfl, e7, H⟩ := hv
      have hS6 := e7.trans hS
      show fx_V l M_MO_storeEntry (0, 0) Q 0 0 47 [some (.ref 31), some (.int (zI x1)), some (.int (zI x2)), some (.int (zI x3)), some (.int (zI x4)), none] [.int (zI r8)] h6
      obtain ⟨hz9, H⟩ := H
      refine fx_if_ne (t := 51) (n := 50) d_MO_storeEntry_47 hz9 (fun z10 => ?_) (fun z10 => ?_)
      · replace H := H.1 z10
        refine fx_iload_n (i := 1) d_MO_storeEntry_51 rfl rfl ?_
        refine fx_istore (ls2 := [some (.ref 31), some (.int (zI x1)), some (.int (zI x2)), some (.int (zI x3)), some (.int (zI x1)), none]) d_MO_storeEntry_52 (by decide) rfl ?_
        refine fx_iload_n (i := 3) d_MO_storeEntry_54 rfl rfl ?_
        refine fx_iconst d_MO_storeEntry_55 ?_
        refine fx_isub d_MO_storeEntry_56 ?_
        refine fx_istore (ls2 := [some (.ref 31), some (.int (zI x1)), some (.int (zI x2)), some (.int (zI x3)), some (.int (zI x1)), some (.int (zI (x3 - 1)))]) d_MO_storeEntry_57 (by decide) rfl ?_
        exact fx_fewer [some (.ref 31), none, none, some (.int (zI x3)), some (.int (zI x1)), some (.int (zI (x3 - 1)))] ⟨rfl, rfl, rfl, rfl, trivial⟩ H
      · replace H := H.2 z10
        exact fx_end none ⟨rfl, d_MO_storeEntry_50⟩ (Nat.le_refl _) (Nat.le_refl _) rfl H
    · replace H := H.2 z5
      refine fx_iconst d_MO_storeEntry_39 ?_
      refine fx_goto (n := 44) d_MO_storeEntry_40 ?_
      refine fx_callV (M' := M_MO_need) (B' := (0, 0)) (vs := [.int (zI 1)]) (rest := []) (c1 := 0) (s1 := 0) (n := 47) d_MO_storeEntry_44 ca_MO_storeEntry_273 (at_31 (h := _) hS) rfl rfl rfl ⟨by decide, by decide⟩ (Nat.le_of_ble_eq_true rfl) (Or.inl rfl) (fx_Mt.mono H fun v h11 hv => ?_)
      obtain ⟨r13, rfl, e12, H⟩ := hv
      have hS11 := e12.trans hS
      show fx_V l M_MO_storeEntry (0, 0) Q 0 0 47 [some (.ref 31), some (.int (zI x1)), some (.int (zI x2)), some (.int (zI x3)), some (.int (zI x4)), none] [.int (zI r13)] h11
      obtain ⟨hz14, H⟩ := H
      refine fx_if_ne (t := 51) (n := 50) d_MO_storeEntry_47 hz14 (fun z15 => ?_) (fun z15 => ?_)
      · replace H := H.1 z15
        refine fx_iload_n (i := 1) d_MO_storeEntry_51 rfl rfl ?_
        refine fx_istore (ls2 := [some (.ref 31), some (.int (zI x1)), some (.int (zI x2)), some (.int (zI x3)), some (.int (zI x1)), none]) d_MO_storeEntry_52 (by decide) rfl ?_
        refine fx_iload_n (i := 3) d_MO_storeEntry_54 rfl rfl ?_
        refine fx_iconst d_MO_storeEntry_55 ?_
        refine fx_isub d_MO_storeEntry_56 ?_
        refine fx_istore (ls2 := [some (.ref 31), some (.int (zI x1)), some (.int (zI x2)), some (.int (zI x3)), some (.int (zI x1)), some (.int (zI (x3 - 1)))]) d_MO_storeEntry_57 (by decide) rfl ?_
        exact fx_fewer [some (.ref 31), none, none, some (.int (zI x3)), some (.int (zI x1)), some (.int (zI (x3 - 1)))] ⟨rfl, rfl, rfl, rfl, trivial⟩ H
      · replace H := H.2 z15
        exact fx_end none ⟨rfl, d_MO_storeEntry_50⟩ (Nat.le_refl _) (Nat.le_refl _) rfl H
  · replace H := H.2 z2
    refine fx_aload_n (i := 0) d_MO_storeEntry_13 rfl rfl ?_
    refine fx_getR (q := 39) d_MO_storeEntry_14 lk_MO_50 (at_31 (h := _) hS) rfl rfl ?_
    refine fx_iload d_MO_storeEntry_17 rfl ?_
    obtain ⟨hn16, H⟩ := H
    obtain ⟨hn17, H⟩ := H
    refine fx_iald d_MO_storeEntry_19 (at_39 (h := _) hS) hn16 hn17 (by decide) ?_
    refine fx_istore (ls2 := [some (.ref 31), some (.int (zI x1)), some (.int (zI x2)), some (.int (zI x3)), some (.int (zI (h.2.2.1 39 (x4.toNat)))), none]) d_MO_storeEntry_20 (by decide) rfl ?_
    refine fx_iinc (v := x3 + 1) (ls2 := [some (.ref 31), some (.int (zI x1)), some (.int (zI x2)), some (.int (zI (x3 + 1))), some (.int (zI (h.2.2.1 39 (x4.toNat)))), none]) d_MO_storeEntry_22 rfl rfl (by decide) rfl ?_
    refine fx_goto (n := 5) d_MO_storeEntry_25 ?_
    exact H

set_option maxRecDepth 100000 in
set_option maxHeartbeats 4000000 in
theorem w_MO_storeEntry_59 {l : Launch} {Q : Option Value → fx_H → Prop} {h : fx_H}  {x3 : Int} {x4 : Int} {x5 : Int}  {a : Nat → Nat} {pp dd : Nat} (hS : h.1 = fx_S0 a pp dd) 
    (H : zR x5 ∧ ((x5 < 0 → Q none (fx_uF h 31 27 ((h.2.1 31 27) + x3))) ∧ (¬ (x5 < 0) → zR x4 ∧ ((x4 ≤ 255 → 0 ≤ ((h.2.1 31 27) + x5) ∧ ((h.2.1 31 27) + x5) < 400 ∧ ((x4 ≤ 255 → (fx_V l M_MO_storeEntry (0, 0) Q 0 0 59 [some (.ref 31), none, none, some (.int (zI x3)), some (.int (zI 0)), some (.int (zI (x5 + (-1))))] [] (fx_uA h 38 (((h.2.1 31 27) + x5).toNat) x4))) ∧ (¬ (x4 ≤ 255) → 0 ≤ x4 ∧ x4 < 700 ∧ (fx_V l M_MO_storeEntry (0, 0) Q 0 0 59 [some (.ref 31), none, none, some (.int (zI x3)), some (.int (zI (h.2.2.1 39 (x4.toNat)))), some (.int (zI (x5 + (-1))))] [] (fx_uA h 38 (((h.2.1 31 27) + x5).toNat) x4))))) ∧ (¬ (x4 ≤ 255) → 0 ≤ x4 ∧ x4 < 700 ∧ 0 ≤ ((h.2.1 31 27) + x5) ∧ ((h.2.1 31 27) + x5) < 400 ∧ ((x4 ≤ 255 → (fx_V l M_MO_storeEntry (0, 0) Q 0 0 59 [some (.ref 31), none, none, some (.int (zI x3)), some (.int (zI 0)), some (.int (zI (x5 + (-1))))] [] (fx_uA h 38 (((h.2.1 31 27) + x5).toNat) (h.2.2.1 40 (x4.toNat))))) ∧ (¬ (x4 ≤ 255) → 0 ≤ x4 ∧ x4 < 700 ∧ (fx_V l M_MO_storeEntry (0, 0) Q 0 0 59 [some (.ref 31), none, none, some (.int (zI x3)), some (.int (zI (h.2.2.1 39 (x4.toNat)))), some (.int (zI (x5 + (-1))))] [] (fx_uA h 38 (((h.2.1 31 27) + x5).toNat) (h.2.2.1 40 (x4.toNat))))))))))) :
    fx_V l M_MO_storeEntry (0, 0) Q 0 0 59 [some (.ref 31), none, none, some (.int (zI x3)), some (.int (zI x4)), some (.int (zI x5))] [] h := by
  refine fx_iload d_MO_storeEntry_59 rfl ?_
  obtain ⟨hz1, H⟩ := H
  refine fx_if_lt (t := 123) (n := 64) d_MO_storeEntry_61 hz1 (fun z2 => ?_) (fun z2 => ?_)
  · replace H := H.1 z2
    refine fx_aload_n (i := 0) d_MO_storeEntry_123 rfl rfl ?_
    refine fx_aload_n (i := 0) d_MO_storeEntry_124 rfl rfl ?_
    refine fx_getI d_MO_storeEntry_125 lk_MO_134 (at_31 (h := _) hS) rfl ?_
    refine fx_iload_n (i := 3) d_MO_storeEntry_128 rfl rfl ?_
    refine fx_iadd d_MO_storeEntry_129 ?_
    refine fx_putI d_MO_storeEntry_130 lk_MO_134 (at_31 (h := _) hS) rfl rfl rfl ?_
    exact fx_end none ⟨rfl, d_MO_storeEntry_133⟩ (Nat.le_refl _) (Nat.le_refl _) rfl H
  · replace H := H.2 z2
    refine fx_aload_n (i := 0) d_MO_storeEntry_64 rfl rfl ?_
    refine fx_getR (q := 38) d_MO_storeEntry_65 lk_MO_47 (at_31 (h := _) hS) rfl rfl ?_
    refine fx_aload_n (i := 0) d_MO_storeEntry_68 rfl rfl ?_
    refine fx_getI d_MO_storeEntry_69 lk_MO_134 (at_31 (h := _) hS) rfl ?_
    refine fx_iload d_MO_storeEntry_72 rfl ?_
    refine fx_iadd d_MO_storeEntry_74 ?_
    refine fx_iload d_MO_storeEntry_75 rfl ?_
    refine fx_sipush (v := 255) d_MO_storeEntry_77 rfl ?_
    obtain ⟨hz3, H⟩ := H
    refine fx_icmp_le (t := 93) (n := 83) d_MO_storeEntry_80 hz3 (show zR 255 by decide) (fun z4 => ?_) (fun z4 => ?_)
    · replace H := H.1 z4
      refine fx_iload d_MO_storeEntry_93 rfl ?_
      obtain ⟨hn5, H⟩ := H
      obtain ⟨hn6, H⟩ := H
      refine fx_iast d_MO_storeEntry_95 (at_38 (h := _) hS) hn5 hn6 (by decide) ?_
      refine fx_iload d_MO_storeEntry_96 rfl ?_
      refine fx_sipush (v := 255) d_MO_storeEntry_98 rfl ?_
      refine fx_icmp_le (t := 114) (n := 104) d_MO_storeEntry_101 hz3 (show zR 255 by decide) (fun z7 => ?_) (fun z7 => ?_)
      · replace H := H.1 z7
        refine fx_iconst d_MO_storeEntry_114 ?_
        refine fx_istore (ls2 := [some (.ref 31), none, none, some (.int (zI x3)), some (.int (zI 0)), some (.int (zI x5))]) d_MO_storeEntry_115 (by decide) rfl ?_
        refine fx_iinc (v := x5 + (-1)) (ls2 := [some (.ref 31), none, none, some (.int (zI x3)), some (.int (zI 0)), some (.int (zI (x5 + (-1))))]) d_MO_storeEntry_117 rfl rfl (by decide) rfl ?_
        refine fx_goto (n := 59) d_MO_storeEntry_120 ?_
        exact H
      · replace H := H.2 z7
        refine fx_aload_n (i := 0) d_MO_storeEntry_104 rfl rfl ?_
        refine fx_getR (q := 39) d_MO_storeEntry_105 lk_MO_50 (at_31 (h := _) hS) rfl rfl ?_
        refine fx_iload d_MO_storeEntry_108 rfl ?_
        obtain ⟨hn8, H⟩ := H
        obtain ⟨hn9, H⟩ := H
        refine fx_iald d_MO_storeEntry_110 (at_39 (h := _) hS) hn8 hn9 (by decide) ?_
        refine fx_goto (n := 115) d_MO_storeEntry_111 ?_
        refine fx_istore (ls2 := [some (.ref 31), none, none, some (.int (zI x3)), some (.int (zI (h.2.2.1 39 (x4.toNat)))), some (.int (zI x5))]) d_MO_storeEntry_115 (by decide) rfl ?_
        refine fx_iinc (v := x5 + (-1)) (ls2 := [some (.ref 31), none, none, some (.int (zI x3)), some (.int (zI (h.2.2.1 39 (x4.toNat)))), some (.int (zI (x5 + (-1))))]) d_MO_storeEntry_117 rfl rfl (by decide) rfl ?_
        refine fx_goto (n := 59) d_MO_storeEntry_120 ?_
        exact H
    · replace H := H.2 z4
      refine fx_aload_n (i := 0) d_MO_storeEntry_83 rfl rfl ?_
      refine fx_getR (q := 40) d_MO_storeEntry_84 lk_MO_53 (at_31 (h := _) hS) rfl rfl ?_
      refine fx_iload d_MO_storeEntry_87 rfl ?_
      obtain ⟨hn10, H⟩ := H
      obtain ⟨hn11, H⟩ := H
      refine fx_iald d_MO_storeEntry_89 (at_40 (h := _) hS) hn10 hn11 (by decide) ?_
      refine fx_goto (n := 95) d_MO_storeEntry_90 ?_
      obtain ⟨hn12, H⟩ := H
      obtain ⟨hn13, H⟩ := H
      refine fx_iast d_MO_storeEntry_95 (at_38 (h := _) hS) hn12 hn13 (by decide) ?_
      refine fx_iload d_MO_storeEntry_96 rfl ?_
      refine fx_sipush (v := 255) d_MO_storeEntry_98 rfl ?_
      refine fx_icmp_le (t := 114) (n := 104) d_MO_storeEntry_101 hz3 (show zR 255 by decide) (fun z14 => ?_) (fun z14 => ?_)
      · replace H := H.1 z14
        refine fx_iconst d_MO_storeEntry_114 ?_
        refine fx_istore (ls2 := [some (.ref 31), none, none, some (.int (zI x3)), some (.int (zI 0)), some (.int (zI x5))]) d_MO_storeEntry_115 (by decide) rfl ?_
        refine fx_iinc (v := x5 + (-1)) (ls2 := [some (.ref 31), none, none, some (.int (zI x3)), some (.int (zI 0)), some (.int (zI (x5 + (-1))))]) d_MO_storeEntry_117 rfl rfl (by decide) rfl ?_
        refine fx_goto (n := 59) d_MO_storeEntry_120 ?_
        exact H
      · replace H := H.2 z14
        refine fx_aload_n (i := 0) d_MO_storeEntry_104 rfl rfl ?_
        refine fx_getR (q := 39) d_MO_storeEntry_105 lk_MO_50 (at_31 (h := _) hS) rfl rfl ?_
        refine fx_iload d_MO_storeEntry_108 rfl ?_
        obtain ⟨hn15, H⟩ := H
        obtain ⟨hn16, H⟩ := H
        refine fx_iald d_MO_storeEntry_110 (at_39 (h := _) hS) hn15 hn16 (by decide) ?_
        refine fx_goto (n := 115) d_MO_storeEntry_111 ?_
        refine fx_istore (ls2 := [some (.ref 31), none, none, some (.int (zI x3)), some (.int (zI (h.2.2.1 39 (x4.toNat)))), some (.int (zI x5))]) d_MO_storeEntry_115 (by decide) rfl ?_
        refine fx_iinc (v := x5 + (-1)) (ls2 := [some (.ref 31), none, none, some (.int (zI x3)), some (.int (zI (h.2.2.1 39 (x4.toNat)))), some (.int (zI (x5 + (-1))))]) d_MO_storeEntry_117 rfl rfl (by decide) rfl ?_
        refine fx_goto (n := 59) d_MO_storeEntry_120 ?_
        exact H

set_option maxRecDepth 100000 in
set_option maxHeartbeats 4000000 in
theorem e_MO_inRuns {l : Launch} {Q : Option Value → fx_H → Prop} {h : fx_H}  {x : Int}  {a : Nat → Nat} {pp dd : Nat} (hS : h.1 = fx_S0 a pp dd) 
    (H : fx_Mt l M_MO_rowBytes (0, 0) [.ref 31] h (fun v h1 => ∃ r3 : Int, v = some (.int (zI r3)) ∧ h1.1 = h.1 ∧ (fx_V l M_MO_inRuns (0, 0) Q 0 0 5 [some (.ref 31), some (.int (zI x)), some (.int (zI r3)), none, none, none, none, none] [] h1))) :
    fx_Mt l M_MO_inRuns (0, 0) [.ref 31, .int (zI x)] h Q := by
  refine fx_entry (ls := [some (.ref 31), some (.int (zI x)), none, none, none, none, none, none]) (by decide) (Nat.le_of_ble_eq_true rfl) rfl ?_
  refine fx_aload_n (i := 0) d_MO_inRuns_0 rfl rfl ?_
  refine fx_callV (M' := M_MO_rowBytes) (B' := (0, 0)) (vs := []) (rest := []) (c1 := 0) (s1 := 0) (n := 4) d_MO_inRuns_1 ca_MO_inRuns_137 (at_31 (h := _) hS) rfl rfl rfl ⟨by decide, by decide⟩ (Nat.le_of_ble_eq_true rfl) (Or.inl rfl) (fx_Mt.mono H fun v h1 hv => ?_)
  obtain ⟨r3, rfl, e2, H⟩ := hv
  have hS1 := e2.trans hS
  show fx_V l M_MO_inRuns (0, 0) Q 0 0 4 [some (.ref 31), some (.int (zI x)), none, none, none, none, none, none] [.int (zI r3)] h1
  refine fx_istore_n (i := 2) (ls2 := [some (.ref 31), some (.int (zI x)), some (.int (zI r3)), none, none, none, none, none]) d_MO_inRuns_4 rfl (by decide) rfl ?_
  exact H

set_option maxRecDepth 100000 in
set_option maxHeartbeats 4000000 in
theorem w_MO_inRuns_5 {l : Launch} {Q : Option Value → fx_H → Prop} {h : fx_H}  {x1 : Int} {x2 : Int}  {a : Nat → Nat} {pp dd : Nat} (hS : h.1 = fx_S0 a pp dd) 
    (H : zR (h.2.1 31 27) ∧ zR x1 ∧ ((x1 ≤ (h.2.1 31 27) → zR (h.2.1 31 20) ∧ zR (h.2.1 31 21) ∧ ((¬ (h.2.1 31 20) = (h.2.1 31 21) → fx_Mt l M_MO_need (0, 0) [.ref 31, .int (zI 0)] h (fun v h7 => ∃ r9 : Int, v = some (.int (zI r9)) ∧ h7.1 = h.1 ∧ Q none h7)) ∧ ((h.2.1 31 20) = (h.2.1 31 21) → fx_Mt l M_MO_need (0, 0) [.ref 31, .int (zI 1)] h (fun v h10 => ∃ r12 : Int, v = some (.int (zI r12)) ∧ h10.1 = h.1 ∧ Q none h10)))) ∧ (¬ (x1 ≤ (h.2.1 31 27)) → zR (h.2.1 31 22) ∧ ((¬ (h.2.1 31 22) = 0 → zR (h.2.1 31 20) ∧ zR (h.2.1 31 21) ∧ ((¬ (h.2.1 31 20) = (h.2.1 31 21) → fx_Mt l M_MO_need (0, 0) [.ref 31, .int (zI 0)] h (fun v h18 => ∃ r20 : Int, v = some (.int (zI r20)) ∧ h18.1 = h.1 ∧ Q none h18)) ∧ ((h.2.1 31 20) = (h.2.1 31 21) → fx_Mt l M_MO_need (0, 0) [.ref 31, .int (zI 1)] h (fun v h21 => ∃ r23 : Int, v = some (.int (zI r23)) ∧ h21.1 = h.1 ∧ Q none h21)))) ∧ ((h.2.1 31 22) = 0 → 0 ≤ (h.2.1 31 27) ∧ 0 < x2 ∧ zR x2 ∧ fx_Mt l M_MO_inByte (0, 0) [.ref 31] h (fun v h27 => ∃ r29 : Int, v = some (.int (zI r29)) ∧ h27.1 = h.1 ∧ zR r29 ∧ ((128 ≤ r29 → ((r29 ≤ 128 → zR (x2 - ((h.2.1 31 27) % x2)) ∧ (((x2 - ((h.2.1 31 27) % x2)) < 0 → fx_Mt l M_MO_need (0, 0) [.ref 31, .int (zI 0)] h27 (fun v h35 => ∃ r37 : Int, v = some (.int (zI r37)) ∧ h35.1 = h27.1 ∧ ((r29 ≤ 128 → (fx_V l M_MO_inRuns (0, 0) Q 0 0 107 [some (.ref 31), some (.int (zI x1)), some (.int (zI x2)), none, some (.int (zI r29)), some (.int (zI 0)), some (.int (zI 0)), some (.int (zI 0))] [] h35)) ∧ (¬ (r29 ≤ 128) → fx_Mt l M_MO_inByte (0, 0) [.ref 31] h35 (fun v h39 => ∃ r41 : Int, v = some (.int (zI r41)) ∧ h39.1 = h35.1 ∧ (fx_V l M_MO_inRuns (0, 0) Q 0 0 107 [some (.ref 31), some (.int (zI x1)), some (.int (zI x2)), none, some (.int (zI r29)), some (.int (zI 0)), some (.int (zI r41)), some (.int (zI 0))] [] h39)))))) ∧ (¬ ((x2 - ((h.2.1 31 27) % x2)) < 0) → fx_Mt l M_MO_need (0, 0) [.ref 31, .int (zI 1)] h27 (fun v h42 => ∃ r44 : Int, v = some (.int (zI r44)) ∧ h42.1 = h27.1 ∧ ((r29 ≤ 128 → (fx_V l M_MO_inRuns (0, 0) Q 0 0 107 [some (.ref 31), some (.int (zI x1)), some (.int (zI x2)), none, some (.int (zI r29)), some (.int (zI 0)), some (.int (zI 0)), some (.int (zI 0))] [] h42)) ∧ (¬ (r29 ≤ 128) → fx_Mt l M_MO_inByte (0, 0) [.ref 31] h42 (fun v h46 => ∃ r48 : Int, v = some (.int (zI r48)) ∧ h46.1 = h42.1 ∧ (fx_V l M_MO_inRuns (0, 0) Q 0 0 107 [some (.ref 31), some (.int (zI x1)), some (.int (zI x2)), none, some (.int (zI r29)), some (.int (zI 0)), some (.int (zI r48)), some (.int (zI 0))] [] h46)))))))) ∧ (¬ (r29 ≤ 128) → zR (257 - r29) ∧ zR (x2 - ((h.2.1 31 27) % x2)) ∧ (((x2 - ((h.2.1 31 27) % x2)) < (257 - r29) → fx_Mt l M_MO_need (0, 0) [.ref 31, .int (zI 0)] h27 (fun v h52 => ∃ r54 : Int, v = some (.int (zI r54)) ∧ h52.1 = h27.1 ∧ ((r29 ≤ 128 → (fx_V l M_MO_inRuns (0, 0) Q 0 0 107 [some (.ref 31), some (.int (zI x1)), some (.int (zI x2)), none, some (.int (zI r29)), some (.int (zI (257 - r29))), some (.int (zI 0)), some (.int (zI 0))] [] h52)) ∧ (¬ (r29 ≤ 128) → fx_Mt l M_MO_inByte (0, 0) [.ref 31] h52 (fun v h56 => ∃ r58 : Int, v = some (.int (zI r58)) ∧ h56.1 = h52.1 ∧ (fx_V l M_MO_inRuns (0, 0) Q 0 0 107 [some (.ref 31), some (.int (zI x1)), some (.int (zI x2)), none, some (.int (zI r29)), some (.int (zI (257 - r29))), some (.int (zI r58)), some (.int (zI 0))] [] h56)))))) ∧ (¬ ((x2 - ((h.2.1 31 27) % x2)) < (257 - r29)) → fx_Mt l M_MO_need (0, 0) [.ref 31, .int (zI 1)] h27 (fun v h59 => ∃ r61 : Int, v = some (.int (zI r61)) ∧ h59.1 = h27.1 ∧ ((r29 ≤ 128 → (fx_V l M_MO_inRuns (0, 0) Q 0 0 107 [some (.ref 31), some (.int (zI x1)), some (.int (zI x2)), none, some (.int (zI r29)), some (.int (zI (257 - r29))), some (.int (zI 0)), some (.int (zI 0))] [] h59)) ∧ (¬ (r29 ≤ 128) → fx_Mt l M_MO_inByte (0, 0) [.ref 31] h59 (fun v h63 => ∃ r65 : Int, v = some (.int (zI r65)) ∧ h63.1 = h59.1 ∧ (fx_V l M_MO_inRuns (0, 0) Q 0 0 107 [some (.ref 31), some (.int (zI x1)), some (.int (zI x2)), none, some (.int (zI r29)), some (.int (zI (257 - r29))), some (.int (zI r65)), some (.int (zI 0))] [] h63)))))))))) ∧ (¬ (128 ≤ r29) → zR (r29 + 1) ∧ zR (x2 - ((h.2.1 31 27) % x2)) ∧ (((x2 - ((h.2.1 31 27) % x2)) < (r29 + 1) → fx_Mt l M_MO_need (0, 0) [.ref 31, .int (zI 0)] h27 (fun v h69 => ∃ r71 : Int, v = some (.int (zI r71)) ∧ h69.1 = h27.1 ∧ ((r29 ≤ 128 → (fx_V l M_MO_inRuns (0, 0) Q 0 0 107 [some (.ref 31), some (.int (zI x1)), some (.int (zI x2)), none, some (.int (zI r29)), some (.int (zI (r29 + 1))), some (.int (zI 0)), some (.int (zI 0))] [] h69)) ∧ (¬ (r29 ≤ 128) → fx_Mt l M_MO_inByte (0, 0) [.ref 31] h69 (fun v h73 => ∃ r75 : Int, v = some (.int (zI r75)) ∧ h73.1 = h69.1 ∧ (fx_V l M_MO_inRuns (0, 0) Q 0 0 107 [some (.ref 31), some (.int (zI x1)), some (.int (zI x2)), none, some (.int (zI r29)), some (.int (zI (r29 + 1))), some (.int (zI r75)), some (.int (zI 0))] [] h73)))))) ∧ (¬ ((x2 - ((h.2.1 31 27) % x2)) < (r29 + 1)) → fx_Mt l M_MO_need (0, 0) [.ref 31, .int (zI 1)] h27 (fun v h76 => ∃ r78 : Int, v = some (.int (zI r78)) ∧ h76.1 = h27.1 ∧ ((r29 ≤ 128 → (fx_V l M_MO_inRuns (0, 0) Q 0 0 107 [some (.ref 31), some (.int (zI x1)), some (.int (zI x2)), none, some (.int (zI r29)), some (.int (zI (r29 + 1))), some (.int (zI 0)), some (.int (zI 0))] [] h76)) ∧ (¬ (r29 ≤ 128) → fx_Mt l M_MO_inByte (0, 0) [.ref 31] h76 (fun v h80 => ∃ r82 : Int, v = some (.int (zI r82)) ∧ h80.1 = h76.1 ∧ (fx_V l M_MO_inRuns (0, 0) Q 0 0 107 [some (.ref 31), some (.int (zI x1)), some (.int (zI x2)), none, some (.int (zI r29)), some (.int (zI (r29 + 1))), some (.int (zI r82)), some (.int (zI 0))] [] h80))))))))))))))) :
    fx_V l M_MO_inRuns (0, 0) Q 0 0 5 [some (.ref 31), some (.int (zI x1)), some (.int (zI x2)), none, none, none, none, none] [] h := by
  refine fx_aload_n (i := 0) d_MO_inRuns_5 rfl rfl ?_
  refine fx_getI d_MO_inRuns_6 lk_MO_134 (at_31 (h := _) hS) rfl ?_
  refine fx_iload_n (i := 1) d_MO_inRuns_9 rfl rfl ?_
  obtain ⟨hz1, H⟩ := H
  obtain ⟨hz2, H⟩ := H
  refine fx_icmp_ge (t := 151) (n := 13) d_MO_inRuns_10 hz1 hz2 (fun z3 => ?_) (fun z3 => ?_)
  · replace H := H.1 z3
    refine fx_aload_n (i := 0) d_MO_inRuns_151 rfl rfl ?_
    refine fx_aload_n (i := 0) d_MO_inRuns_152 rfl rfl ?_
    refine fx_getI d_MO_inRuns_153 lk_MO_267 (at_31 (h := _) hS) rfl ?_
    refine fx_aload_n (i := 0) d_MO_inRuns_156 rfl rfl ?_
    refine fx_getI d_MO_inRuns_157 lk_MO_270 (at_31 (h := _) hS) rfl ?_
    obtain ⟨hz4, H⟩ := H
    obtain ⟨hz5, H⟩ := H
    refine fx_icmp_ne (t := 167) (n := 163) d_MO_inRuns_160 hz4 hz5 (fun z6 => ?_) (fun z6 => ?_)
    · replace H := H.1 z6
      refine fx_iconst d_MO_inRuns_167 ?_
      refine fx_callV (M' := M_MO_need) (B' := (0, 0)) (vs := [.int (zI 0)]) (rest := []) (c1 := 0) (s1 := 0) (n := 171) d_MO_inRuns_168 ca_MO_inRuns_273 (at_31 (h := _) hS) rfl rfl rfl ⟨by decide, by decide⟩ (Nat.le_of_ble_eq_true rfl) (Or.inl rfl) (fx_Mt.mono H fun v h7 hv => ?_)
      obtain ⟨r9, rfl, e8, H⟩ := hv
      have hS7 := e8.trans hS
      show fx_V l M_MO_inRuns (0, 0) Q 0 0 171 [some (.ref 31), some (.int (zI x1)), some (.int (zI x2)), none, none, none, none, none] [.int (zI r9)] h7
      refine fx_pop d_MO_inRuns_171 rfl ?_
      exact fx_end none ⟨rfl, d_MO_inRuns_172⟩ (Nat.le_refl _) (Nat.le_refl _) rfl H
    · replace H := H.2 z6
      refine fx_iconst d_MO_inRuns_163 ?_
      refine fx_goto (n := 168) d_MO_inRuns_164 ?_
      refine fx_callV (M' := M_MO_need) (B' := (0, 0)) (vs := [.int (zI 1)]) (rest := []) (c1 := 0) (s1 := 0) (n := 171) d_MO_inRuns_168 ca_MO_inRuns_273 (at_31 (h := _) hS) rfl rfl rfl ⟨by decide, by decide⟩ (Nat.le_of_ble_eq_true rfl) (Or.inl rfl) (fx_Mt.mono H fun v h10 hv => ?_)
      obtain ⟨r12, rfl, e11, H⟩ := hv
      have hS10 := e11.trans hS
      show fx_V l M_MO_inRuns (0, 0) Q 0 0 171 [some (.ref 31), some (.int (zI x1)), some (.int (zI x2)), none, none, none, none, none] [.int (zI r12)] h10
      refine fx_pop d_MO_inRuns_171 rfl ?_
      exact fx_end none ⟨rfl, d_MO_inRuns_172⟩ (Nat.le_refl _) (Nat.le_refl _) rfl H
  · replace H := H.2 z3
    refine fx_aload_n (i := 0) d_MO_inRuns_13 rfl rfl ?_
    refine fx_getI d_MO_inRuns_14 lk_MO_264 (at_31 (h := _) hS) rfl ?_
    obtain ⟨hz13, H⟩ := H
    refine fx_if_ne (t := 151) (n := 20) d_MO_inRuns_17 hz13 (fun z14 => ?_) (fun z14 => ?_)
    · replace H := H.1 z14
      refine fx_aload_n (i := 0) d_MO_inRuns_151 rfl rfl ?_
      refine fx_aload_n (i := 0) d_MO_inRuns_152 rfl rfl ?_
      refine fx_getI d_MO_inRuns_153 lk_MO_267 (at_31 (h := _) hS) rfl ?_
      refine fx_aload_n (i := 0) d_MO_inRuns_156 rfl rfl ?_
      refine fx_getI d_MO_inRuns_157 lk_MO_270 (at_31 (h := _) hS) rfl ?_
      obtain ⟨hz15, H⟩ := H
      obtain ⟨hz16, H⟩ := H
      refine fx_icmp_ne (t := 167) (n := 163) d_MO_inRuns_160 hz15 hz16 (fun z17 => ?_) (fun z17 => ?_)
      · replace H := H.1 z17
        refine fx_iconst d_MO_inRuns_167 ?_
        refine fx_callV (M' := M_MO_need) (B' := (0, 0)) (vs := [.int (zI 0)]) (rest := []) (c1 := 0) (s1 := 0) (n := 171) d_MO_inRuns_168 ca_MO_inRuns_273 (at_31 (h := _) hS) rfl rfl rfl ⟨by decide, by decide⟩ (Nat.le_of_ble_eq_true rfl) (Or.inl rfl) (fx_Mt.mono H fun v h18 hv => ?_)
        obtain ⟨r20, rfl, e19, H⟩ := hv
        have hS18 := e19.trans hS
        show fx_V l M_MO_inRuns (0, 0) Q 0 0 171 [some (.ref 31), some (.int (zI x1)), some (.int (zI x2)), none, none, none, none, none] [.int (zI r20)] h18
        refine fx_pop d_MO_inRuns_171 rfl ?_
        exact fx_end none ⟨rfl, d_MO_inRuns_172⟩ (Nat.le_refl _) (Nat.le_refl _) rfl H
      · replace H := H.2 z17
        refine fx_iconst d_MO_inRuns_163 ?_
        refine fx_goto (n := 168) d_MO_inRuns_164 ?_
        refine fx_callV (M' := M_MO_need) (B' := (0, 0)) (vs := [.int (zI 1)]) (rest := []) (c1 := 0) (s1 := 0) (n := 171) d_MO_inRuns_168 ca_MO_inRuns_273 (at_31 (h := _) hS) rfl rfl rfl ⟨by decide, by decide⟩ (Nat.le_of_ble_eq_true rfl) (Or.inl rfl) (fx_Mt.mono H fun v h21 hv => ?_)
        obtain ⟨r23, rfl, e22, H⟩ := hv
        have hS21 := e22.trans hS
        show fx_V l M_MO_inRuns (0, 0) Q 0 0 171 [some (.ref 31), some (.int (zI x1)), some (.int (zI x2)), none, none, none, none, none] [.int (zI r23)] h21
        refine fx_pop d_MO_inRuns_171 rfl ?_
        exact fx_end none ⟨rfl, d_MO_inRuns_172⟩ (Nat.le_refl _) (Nat.le_refl _) rfl H
    · replace H := H.2 z14
      refine fx_iload_n (i := 2) d_MO_inRuns_20 rfl rfl ?_
      refine fx_aload_n (i := 0) d_MO_inRuns_21 rfl rfl ?_
      refine fx_getI d_MO_inRuns_22 lk_MO_134 (at_31 (h := _) hS) rfl ?_
      refine fx_iload_n (i := 2) d_MO_inRuns_25 rfl rfl ?_
      obtain ⟨hn24, H⟩ := H
      obtain ⟨hn25, H⟩ := H
      obtain ⟨hz26, H⟩ := H
      refine fx_irem d_MO_inRuns_26 hn24 hz1 hn25 hz26 ?_
      refine fx_isub d_MO_inRuns_27 ?_
      refine fx_istore_n (i := 3) (ls2 := [some (.ref 31), some (.int (zI x1)), some (.int (zI x2)), some (.int (zI (x2 - ((h.2.1 31 27) % x2)))), none, none, none, none]) d_MO_inRuns_28 rfl (by decide) rfl ?_
      refine fx_aload_n (i := 0) d_MO_inRuns_29 rfl rfl ?_
      refine fx_callV (M' := M_MO_inByte) (B' := (0, 0)) (vs := []) (rest := []) (c1 := 0) (s1 := 0) (n := 33) d_MO_inRuns_30 ca_MO_inRuns_283 (at_31 (h := _) hS) rfl rfl rfl ⟨by decide, by decide⟩ (Nat.le_of_ble_eq_true rfl) (Or.inl rfl) (fx_Mt.mono H fun v h27 hv => ?_)
      obtain ⟨r29, rfl, e28, H⟩ := hv
      have hS27 := e28.trans hS
      show fx_V l M_MO_inRuns (0, 0) Q 0 0 33 [some (.ref 31), some (.int (zI x1)), some (.int (zI x2)), some (.int (zI (x2 - ((h.2.1 31 27) % x2)))), none, none, none, none] [.int (zI r29)] h27
      refine fx_istore (ls2 := [some (.ref 31), some (.int (zI x1)), some (.int (zI x2)), some (.int (zI (x2 - ((h.2.1 31 27) % x2)))), some (.int (zI r29)), none, none, none]) d_MO_inRuns_33 (by decide) rfl ?_
      refine fx_iload d_MO_inRuns_35 rfl ?_
      refine fx_sipush (v := 128) d_MO_inRuns_37 rfl ?_
      obtain ⟨hz30, H⟩ := H
      refine fx_icmp_ge (t := 50) (n := 43) d_MO_inRuns_40 hz30 (show zR 128 by decide) (fun z31 => ?_) (fun z31 => ?_)
      · replace H := H.1 z31
        refine fx_iload d_MO_inRuns_50 rfl ?_
        refine fx_sipush (v := 128) d_MO_inRuns_52 rfl ?_
        refine fx_icmp_le (t := 67) (n := 58) d_MO_inRuns_55 hz30 (show zR 128 by decide) (fun z32 => ?_) (fun z32 => ?_)
        · replace H := H.1 z32
          refine fx_iconst d_MO_inRuns_67 ?_
          refine fx_istore (ls2 := [some (.ref 31), some (.int (zI x1)), some (.int (zI x2)), some (.int (zI (x2 - ((h.2.1 31 27) % x2)))), some (.int (zI r29)), some (.int (zI 0)), none, none]) d_MO_inRuns_68 (by decide) rfl ?_
          refine fx_aload_n (i := 0) d_MO_inRuns_70 rfl rfl ?_
          refine fx_iload d_MO_inRuns_71 rfl ?_
          refine fx_iload_n (i := 3) d_MO_inRuns_73 rfl rfl ?_
          obtain ⟨hz33, H⟩ := H
          refine fx_icmp_gt (t := 81) (n := 77) d_MO_inRuns_74 (show zR 0 by decide) hz33 (fun z34 => ?_) (fun z34 => ?_)
          · replace H := H.1 z34
            refine fx_iconst d_MO_inRuns_81 ?_
            refine fx_callV (M' := M_MO_need) (B' := (0, 0)) (vs := [.int (zI 0)]) (rest := []) (c1 := 0) (s1 := 0) (n := 85) d_MO_inRuns_82 ca_MO_inRuns_273 (at_31 (h := _) hS27) rfl rfl rfl ⟨by decide, by decide⟩ (Nat.le_of_ble_eq_true rfl) (Or.inl rfl) (fx_Mt.mono H fun v h35 hv => ?_)
            obtain ⟨r37, rfl, e36, H⟩ := hv
            have hS35 := e36.trans hS27
            show fx_V l M_MO_inRuns (0, 0) Q 0 0 85 [some (.ref 31), some (.int (zI x1)), some (.int (zI x2)), some (.int (zI (x2 - ((h.2.1 31 27) % x2)))), some (.int (zI r29)), some (.int (zI 0)), none, none] [.int (zI r37)] h35
            refine fx_pop d_MO_inRuns_85 rfl ?_
            refine fx_iload d_MO_inRuns_86 rfl ?_
            refine fx_sipush (v := 128) d_MO_inRuns_88 rfl ?_
            refine fx_icmp_le (t := 101) (n := 94) d_MO_inRuns_91 hz30 (show zR 128 by decide) (fun z38 => ?_) (fun z38 => ?_)
            · replace H := H.1 z38
              refine fx_iconst d_MO_inRuns_101 ?_
              refine fx_istore (ls2 := [some (.ref 31), some (.int (zI x1)), some (.int (zI x2)), some (.int (zI (x2 - ((h.2.1 31 27) % x2)))), some (.int (zI r29)), some (.int (zI 0)), some (.int (zI 0)), none]) d_MO_inRuns_102 (by decide) rfl ?_
              refine fx_iconst d_MO_inRuns_104 ?_
              refine fx_istore (ls2 := [some (.ref 31), some (.int (zI x1)), some (.int (zI x2)), some (.int (zI (x2 - ((h.2.1 31 27) % x2)))), some (.int (zI r29)), some (.int (zI 0)), some (.int (zI 0)), some (.int (zI 0))]) d_MO_inRuns_105 (by decide) rfl ?_
              exact fx_fewer [some (.ref 31), some (.int (zI x1)), some (.int (zI x2)), none, some (.int (zI r29)), some (.int (zI 0)), some (.int (zI 0)), some (.int (zI 0))] ⟨rfl, rfl, rfl, rfl, rfl, rfl, rfl, trivial⟩ H
            · replace H := H.2 z38
              refine fx_aload_n (i := 0) d_MO_inRuns_94 rfl rfl ?_
              refine fx_callV (M' := M_MO_inByte) (B' := (0, 0)) (vs := []) (rest := []) (c1 := 0) (s1 := 0) (n := 98) d_MO_inRuns_95 ca_MO_inRuns_283 (at_31 (h := _) hS35) rfl rfl rfl ⟨by decide, by decide⟩ (Nat.le_of_ble_eq_true rfl) (Or.inl rfl) (fx_Mt.mono H fun v h39 hv => ?_)
              obtain ⟨r41, rfl, e40, H⟩ := hv
              have hS39 := e40.trans hS35
              show fx_V l M_MO_inRuns (0, 0) Q 0 0 98 [some (.ref 31), some (.int (zI x1)), some (.int (zI x2)), some (.int (zI (x2 - ((h.2.1 31 27) % x2)))), some (.int (zI r29)), some (.int (zI 0)), none, none] [.int (zI r41)] h39
              refine fx_goto (n := 102) d_MO_inRuns_98 ?_
              refine fx_istore (ls2 := [some (.ref 31), some (.int (zI x1)), some (.int (zI x2)), some (.int (zI (x2 - ((h.2.1 31 27) % x2)))), some (.int (zI r29)), some (.int (zI 0)), some (.int (zI r41)), none]) d_MO_inRuns_102 (by decide) rfl ?_
              refine fx_iconst d_MO_inRuns_104 ?_
              refine fx_istore (ls2 := [some (.ref 31), some (.int (zI x1)), some (.int (zI x2)), some (.int (zI (x2 - ((h.2.1 31 27) % x2)))), some (.int (zI r29)), some (.int (zI 0)), some (.int (zI r41)), some (.int (zI 0))]) d_MO_inRuns_105 (by decide) rfl ?_
              exact fx_fewer [some (.ref 31), some (.int (zI x1)), some (.int (zI x2)), none, some (.int (zI r29)), some (.int (zI 0)), some (.int (zI r41)), some (.int (zI 0))] ⟨rfl, rfl, rfl, rfl, rfl, rfl, rfl, trivial⟩ H
          · replace H := H.2 z34
            refine fx_iconst d_MO_inRuns_77 ?_
            refine fx_goto (n := 82) d_MO_inRuns_78 ?_
            refine fx_callV (M' := M_MO_need) (B' := (0, 0)) (vs := [.int (zI 1)]) (rest := []) (c1 := 0) (s1 := 0) (n := 85) d_MO_inRuns_82 ca_MO_inRuns_273 (at_31 (h := _) hS27) rfl rfl rfl ⟨by decide, by decide⟩ (Nat.le_of_ble_eq_true rfl) (Or.inl rfl) (fx_Mt.mono H fun v h42 hv => ?_)
            obtain ⟨r44, rfl, e43, H⟩ := hv
            have hS42 := e43.trans hS27
            show fx_V l M_MO_inRuns (0, 0) Q 0 0 85 [some (.ref 31), some (.int (zI x1)), some (.int (zI x2)), some (.int (zI (x2 - ((h.2.1 31 27) % x2)))), some (.int (zI r29)), some (.int (zI 0)), none, none] [.int (zI r44)] h42
            refine fx_pop d_MO_inRuns_85 rfl ?_
            refine fx_iload d_MO_inRuns_86 rfl ?_
            refine fx_sipush (v := 128) d_MO_inRuns_88 rfl ?_
            refine fx_icmp_le (t := 101) (n := 94) d_MO_inRuns_91 hz30 (show zR 128 by decide) (fun z45 => ?_) (fun z45 => ?_)
            · replace H := H.1 z45
              refine fx_iconst d_MO_inRuns_101 ?_
              refine fx_istore (ls2 := [some (.ref 31), some (.int (zI x1)), some (.int (zI x2)), some (.int (zI (x2 - ((h.2.1 31 27) % x2)))), some (.int (zI r29)), some (.int (zI 0)), some (.int (zI 0)), none]) d_MO_inRuns_102 (by decide) rfl ?_
              refine fx_iconst d_MO_inRuns_104 ?_
              refine fx_istore (ls2 := [some (.ref 31), some (.int (zI x1)), some (.int (zI x2)), some (.int (zI (x2 - ((h.2.1 31 27) % x2)))), some (.int (zI r29)), some (.int (zI 0)), some (.int (zI 0)), some (.int (zI 0))]) d_MO_inRuns_105 (by decide) rfl ?_
              exact fx_fewer [some (.ref 31), some (.int (zI x1)), some (.int (zI x2)), none, some (.int (zI r29)), some (.int (zI 0)), some (.int (zI 0)), some (.int (zI 0))] ⟨rfl, rfl, rfl, rfl, rfl, rfl, rfl, trivial⟩ H
            · replace H := H.2 z45
              refine fx_aload_n (i := 0) d_MO_inRuns_94 rfl rfl ?_
              refine fx_callV (M' := M_MO_inByte) (B' := (0, 0)) (vs := []) (rest := []) (c1 := 0) (s1 := 0) (n := 98) d_MO_inRuns_95 ca_MO_inRuns_283 (at_31 (h := _) hS42) rfl rfl rfl ⟨by decide, by decide⟩ (Nat.le_of_ble_eq_true rfl) (Or.inl rfl) (fx_Mt.mono H fun v h46 hv => ?_)
              obtain ⟨r48, rfl, e47, H⟩ := hv
              have hS46 := e47.trans hS42
              show fx_V l M_MO_inRuns (0, 0) Q 0 0 98 [some (.ref 31), some (.int (zI x1)), some (.int (zI x2)), some (.int (zI (x2 - ((h.2.1 31 27) % x2)))), some (.int (zI r29)), some (.int (zI 0)), none, none] [.int (zI r48)] h46
              refine fx_goto (n := 102) d_MO_inRuns_98 ?_
              refine fx_istore (ls2 := [some (.ref 31), some (.int (zI x1)), some (.int (zI x2)), some (.int (zI (x2 - ((h.2.1 31 27) % x2)))), some (.int (zI r29)), some (.int (zI 0)), some (.int (zI r48)), none]) d_MO_inRuns_102 (by decide) rfl ?_
              refine fx_iconst d_MO_inRuns_104 ?_
              refine fx_istore (ls2 := [some (.ref 31), some (.int (zI x1)), some (.int (zI x2)), some (.int (zI (x2 - ((h.2.1 31 27) % x2)))), some (.int (zI r29)), some (.int (zI 0)), some (.int (zI r48)), some (.int (zI 0))]) d_MO_inRuns_105 (by decide) rfl ?_
              exact fx_fewer [some (.ref 31), some (.int (zI x1)), some (.int (zI x2)), none, some (.int (zI r29)), some (.int (zI 0)), some (.int (zI r48)), some (.int (zI 0))] ⟨rfl, rfl, rfl, rfl, rfl, rfl, rfl, trivial⟩ H
        · replace H := H.2 z32
          refine fx_sipush (v := 257) d_MO_inRuns_58 rfl ?_
          refine fx_iload d_MO_inRuns_61 rfl ?_
          refine fx_isub d_MO_inRuns_63 ?_
          refine fx_goto (n := 68) d_MO_inRuns_64 ?_
          refine fx_istore (ls2 := [some (.ref 31), some (.int (zI x1)), some (.int (zI x2)), some (.int (zI (x2 - ((h.2.1 31 27) % x2)))), some (.int (zI r29)), some (.int (zI (257 - r29))), none, none]) d_MO_inRuns_68 (by decide) rfl ?_
          refine fx_aload_n (i := 0) d_MO_inRuns_70 rfl rfl ?_
          refine fx_iload d_MO_inRuns_71 rfl ?_
          refine fx_iload_n (i := 3) d_MO_inRuns_73 rfl rfl ?_
          obtain ⟨hz49, H⟩ := H
          obtain ⟨hz50, H⟩ := H
          refine fx_icmp_gt (t := 81) (n := 77) d_MO_inRuns_74 hz49 hz50 (fun z51 => ?_) (fun z51 => ?_)
          · replace H := H.1 z51
            refine fx_iconst d_MO_inRuns_81 ?_
            refine fx_callV (M' := M_MO_need) (B' := (0, 0)) (vs := [.int (zI 0)]) (rest := []) (c1 := 0) (s1 := 0) (n := 85) d_MO_inRuns_82 ca_MO_inRuns_273 (at_31 (h := _) hS27) rfl rfl rfl ⟨by decide, by decide⟩ (Nat.le_of_ble_eq_true rfl) (Or.inl rfl) (fx_Mt.mono H fun v h52 hv => ?_)
            obtain ⟨r54, rfl, e53, H⟩ := hv
            have hS52 := e53.trans hS27
            show fx_V l M_MO_inRuns (0, 0) Q 0 0 85 [some (.ref 31), some (.int (zI x1)), some (.int (zI x2)), some (.int (zI (x2 - ((h.2.1 31 27) % x2)))), some (.int (zI r29)), some (.int (zI (257 - r29))), none, none] [.int (zI r54)] h52
            refine fx_pop d_MO_inRuns_85 rfl ?_
            refine fx_iload d_MO_inRuns_86 rfl ?_
            refine fx_sipush (v := 128) d_MO_inRuns_88 rfl ?_
            refine fx_icmp_le (t := 101) (n := 94) d_MO_inRuns_91 hz30 (show zR 128 by decide) (fun z55 => ?_) (fun z55 => ?_)
            · replace H := H.1 z55
              refine fx_iconst d_MO_inRuns_101 ?_
              refine fx_istore (ls2 := [some (.ref 31), some (.int (zI x1)), some (.int (zI x2)), some (.int (zI (x2 - ((h.2.1 31 27) % x2)))), some (.int (zI r29)), some (.int (zI (257 - r29))), some (.int (zI 0)), none]) d_MO_inRuns_102 (by decide) rfl ?_
              refine fx_iconst d_MO_inRuns_104 ?_
              refine fx_istore (ls2 := [some (.ref 31), some (.int (zI x1)), some (.int (zI x2)), some (.int (zI (x2 - ((h.2.1 31 27) % x2)))), some (.int (zI r29)), some (.int (zI (257 - r29))), some (.int (zI 0)), some (.int (zI 0))]) d_MO_inRuns_105 (by decide) rfl ?_
              exact fx_fewer [some (.ref 31), some (.int (zI x1)), some (.int (zI x2)), none, some (.int (zI r29)), some (.int (zI (257 - r29))), some (.int (zI 0)), some (.int (zI 0))] ⟨rfl, rfl, rfl, rfl, rfl, rfl, rfl, trivial⟩ H
            · replace H := H.2 z55
              refine fx_aload_n (i := 0) d_MO_inRuns_94 rfl rfl ?_
              refine fx_callV (M' := M_MO_inByte) (B' := (0, 0)) (vs := []) (rest := []) (c1 := 0) (s1 := 0) (n := 98) d_MO_inRuns_95 ca_MO_inRuns_283 (at_31 (h := _) hS52) rfl rfl rfl ⟨by decide, by decide⟩ (Nat.le_of_ble_eq_true rfl) (Or.inl rfl) (fx_Mt.mono H fun v h56 hv => ?_)
              obtain ⟨r58, rfl, e57, H⟩ := hv
              have hS56 := e57.trans hS52
              show fx_V l M_MO_inRuns (0, 0) Q 0 0 98 [some (.ref 31), some (.int (zI x1)), some (.int (zI x2)), some (.int (zI (x2 - ((h.2.1 31 27) % x2)))), some (.int (zI r29)), some (.int (zI (257 - r29))), none, none] [.int (zI r58)] h56
              refine fx_goto (n := 102) d_MO_inRuns_98 ?_
              refine fx_istore (ls2 := [some (.ref 31), some (.int (zI x1)), some (.int (zI x2)), some (.int (zI (x2 - ((h.2.1 31 27) % x2)))), some (.int (zI r29)), some (.int (zI (257 - r29))), some (.int (zI r58)), none]) d_MO_inRuns_102 (by decide) rfl ?_
              refine fx_iconst d_MO_inRuns_104 ?_
              refine fx_istore (ls2 := [some (.ref 31), some (.int (zI x1)), some (.int (zI x2)), some (.int (zI (x2 - ((h.2.1 31 27) % x2)))), some (.int (zI r29)), some (.int (zI (257 - r29))), some (.int (zI r58)), some (.int (zI 0))]) d_MO_inRuns_105 (by decide) rfl ?_
              exact fx_fewer [some (.ref 31), some (.int (zI x1)), some (.int (zI x2)), none, some (.int (zI r29)), some (.int (zI (257 - r29))), some (.int (zI r58)), some (.int (zI 0))] ⟨rfl, rfl, rfl, rfl, rfl, rfl, rfl, trivial⟩ H
          · replace H := H.2 z51
            refine fx_iconst d_MO_inRuns_77 ?_
            refine fx_goto (n := 82) d_MO_inRuns_78 ?_
            refine fx_callV (M' := M_MO_need) (B' := (0, 0)) (vs := [.int (zI 1)]) (rest := []) (c1 := 0) (s1 := 0) (n := 85) d_MO_inRuns_82 ca_MO_inRuns_273 (at_31 (h := _) hS27) rfl rfl rfl ⟨by decide, by decide⟩ (Nat.le_of_ble_eq_true rfl) (Or.inl rfl) (fx_Mt.mono H fun v h59 hv => ?_)
            obtain ⟨r61, rfl, e60, H⟩ := hv
            have hS59 := e60.trans hS27
            show fx_V l M_MO_inRuns (0, 0) Q 0 0 85 [some (.ref 31), some (.int (zI x1)), some (.int (zI x2)), some (.int (zI (x2 - ((h.2.1 31 27) % x2)))), some (.int (zI r29)), some (.int (zI (257 - r29))), none, none] [.int (zI r61)] h59
            refine fx_pop d_MO_inRuns_85 rfl ?_
            refine fx_iload d_MO_inRuns_86 rfl ?_
            refine fx_sipush (v := 128) d_MO_inRuns_88 rfl ?_
            refine fx_icmp_le (t := 101) (n := 94) d_MO_inRuns_91 hz30 (show zR 128 by decide) (fun z62 => ?_) (fun z62 => ?_)
            · replace H := H.1 z62
              refine fx_iconst d_MO_inRuns_101 ?_
              refine fx_istore (ls2 := [some (.ref 31), some (.int (zI x1)), some (.int (zI x2)), some (.int (zI (x2 - ((h.2.1 31 27) % x2)))), some (.int (zI r29)), some (.int (zI (257 - r29))), some (.int (zI 0)), none]) d_MO_inRuns_102 (by decide) rfl ?_
              refine fx_iconst d_MO_inRuns_104 ?_
              refine fx_istore (ls2 := [some (.ref 31), some (.int (zI x1)), some (.int (zI x2)), some (.int (zI (x2 - ((h.2.1 31 27) % x2)))), some (.int (zI r29)), some (.int (zI (257 - r29))), some (.int (zI 0)), some (.int (zI 0))]) d_MO_inRuns_105 (by decide) rfl ?_
              exact fx_fewer [some (.ref 31), some (.int (zI x1)), some (.int (zI x2)), none, some (.int (zI r29)), some (.int (zI (257 - r29))), some (.int (zI 0)), some (.int (zI 0))] ⟨rfl, rfl, rfl, rfl, rfl, rfl, rfl, trivial⟩ H
            · replace H := H.2 z62
              refine fx_aload_n (i := 0) d_MO_inRuns_94 rfl rfl ?_
              refine fx_callV (M' := M_MO_inByte) (B' := (0, 0)) (vs := []) (rest := []) (c1 := 0) (s1 := 0) (n := 98) d_MO_inRuns_95 ca_MO_inRuns_283 (at_31 (h := _) hS59) rfl rfl rfl ⟨by decide, by decide⟩ (Nat.le_of_ble_eq_true rfl) (Or.inl rfl) (fx_Mt.mono H fun v h63 hv => ?_)
              obtain ⟨r65, rfl, e64, H⟩ := hv
              have hS63 := e64.trans hS59
              show fx_V l M_MO_inRuns (0, 0) Q 0 0 98 [some (.ref 31), some (.int (zI x1)), some (.int (zI x2)), some (.int (zI (x2 - ((h.2.1 31 27) % x2)))), some (.int (zI r29)), some (.int (zI (257 - r29))), none, none] [.int (zI r65)] h63
              refine fx_goto (n := 102) d_MO_inRuns_98 ?_
              refine fx_istore (ls2 := [some (.ref 31), some (.int (zI x1)), some (.int (zI x2)), some (.int (zI (x2 - ((h.2.1 31 27) % x2)))), some (.int (zI r29)), some (.int (zI (257 - r29))), some (.int (zI r65)), none]) d_MO_inRuns_102 (by decide) rfl ?_
              refine fx_iconst d_MO_inRuns_104 ?_
              refine fx_istore (ls2 := [some (.ref 31), some (.int (zI x1)), some (.int (zI x2)), some (.int (zI (x2 - ((h.2.1 31 27) % x2)))), some (.int (zI r29)), some (.int (zI (257 - r29))), some (.int (zI r65)), some (.int (zI 0))]) d_MO_inRuns_105 (by decide) rfl ?_
              exact fx_fewer [some (.ref 31), some (.int (zI x1)), some (.int (zI x2)), none, some (.int (zI r29)), some (.int (zI (257 - r29))), some (.int (zI r65)), some (.int (zI 0))] ⟨rfl, rfl, rfl, rfl, rfl, rfl, rfl, trivial⟩ H
      · replace H := H.2 z31
        refine fx_iload d_MO_inRuns_43 rfl ?_
        refine fx_iconst d_MO_inRuns_45 ?_
        refine fx_iadd d_MO_inRuns_46 ?_
        refine fx_goto (n := 68) d_MO_inRuns_47 ?_
        refine fx_istore (ls2 := [some (.ref 31), some (.int (zI x1)), some (.int (zI x2)), some (.int (zI (x2 - ((h.2.1 31 27) % x2)))), some (.int (zI r29)), some (.int (zI (r29 + 1))), none, none]) d_MO_inRuns_68 (by decide) rfl ?_
        refine fx_aload_n (i := 0) d_MO_inRuns_70 rfl rfl ?_
        refine fx_iload d_MO_inRuns_71 rfl ?_
        refine fx_iload_n (i := 3) d_MO_inRuns_73 rfl rfl ?_
        obtain ⟨hz66, H⟩ := H
        obtain ⟨hz67, H⟩ := H
        refine fx_icmp_gt (t := 81) (n := 77) d_MO_inRuns_74 hz66 hz67 (fun z68 => ?_) (fun z68 => ?_)
        · replace H := H.1 z68
          refine fx_iconst d_MO_inRuns_81 ?_
          refine fx_callV (M' := M_MO_need) (B' := (0, 0)) (vs := [.int (zI 0)]) (rest := []) (c1 := 0) (s1 := 0) (n := 85) d_MO_inRuns_82 ca_MO_inRuns_273 (at_31 (h := _) hS27) rfl rfl rfl ⟨by decide, by decide⟩ (Nat.le_of_ble_eq_true rfl) (Or.inl rfl) (fx_Mt.mono H fun v h69 hv => ?_)
          obtain ⟨r71, rfl, e70, H⟩ := hv
          have hS69 := e70.trans hS27
          show fx_V l M_MO_inRuns (0, 0) Q 0 0 85 [some (.ref 31), some (.int (zI x1)), some (.int (zI x2)), some (.int (zI (x2 - ((h.2.1 31 27) % x2)))), some (.int (zI r29)), some (.int (zI (r29 + 1))), none, none] [.int (zI r71)] h69
          refine fx_pop d_MO_inRuns_85 rfl ?_
          refine fx_iload d_MO_inRuns_86 rfl ?_
          refine fx_sipush (v := 128) d_MO_inRuns_88 rfl ?_
          refine fx_icmp_le (t := 101) (n := 94) d_MO_inRuns_91 hz30 (show zR 128 by decide) (fun z72 => ?_) (fun z72 => ?_)
          · replace H := H.1 z72
            refine fx_iconst d_MO_inRuns_101 ?_
            refine fx_istore (ls2 := [some (.ref 31), some (.int (zI x1)), some (.int (zI x2)), some (.int (zI (x2 - ((h.2.1 31 27) % x2)))), some (.int (zI r29)), some (.int (zI (r29 + 1))), some (.int (zI 0)), none]) d_MO_inRuns_102 (by decide) rfl ?_
            refine fx_iconst d_MO_inRuns_104 ?_
            refine fx_istore (ls2 := [some (.ref 31), some (.int (zI x1)), some (.int (zI x2)), some (.int (zI (x2 - ((h.2.1 31 27) % x2)))), some (.int (zI r29)), some (.int (zI (r29 + 1))), some (.int (zI 0)), some (.int (zI 0))]) d_MO_inRuns_105 (by decide) rfl ?_
            exact fx_fewer [some (.ref 31), some (.int (zI x1)), some (.int (zI x2)), none, some (.int (zI r29)), some (.int (zI (r29 + 1))), some (.int (zI 0)), some (.int (zI 0))] ⟨rfl, rfl, rfl, rfl, rfl, rfl, rfl, trivial⟩ H
          · replace H := H.2 z72
            refine fx_aload_n (i := 0) d_MO_inRuns_94 rfl rfl ?_
            refine fx_callV (M' := M_MO_inByte) (B' := (0, 0)) (vs := []) (rest := []) (c1 := 0) (s1 := 0) (n := 98) d_MO_inRuns_95 ca_MO_inRuns_283 (at_31 (h := _) hS69) rfl rfl rfl ⟨by decide, by decide⟩ (Nat.le_of_ble_eq_true rfl) (Or.inl rfl) (fx_Mt.mono H fun v h73 hv => ?_)
            obtain ⟨r75, rfl, e74, H⟩ := hv
            have hS73 := e74.trans hS69
            show fx_V l M_MO_inRuns (0, 0) Q 0 0 98 [some (.ref 31), some (.int (zI x1)), some (.int (zI x2)), some (.int (zI (x2 - ((h.2.1 31 27) % x2)))), some (.int (zI r29)), some (.int (zI (r29 + 1))), none, none] [.int (zI r75)] h73
            refine fx_goto (n := 102) d_MO_inRuns_98 ?_
            refine fx_istore (ls2 := [some (.ref 31), some (.int (zI x1)), some (.int (zI x2)), some (.int (zI (x2 - ((h.2.1 31 27) % x2)))), some (.int (zI r29)), some (.int (zI (r29 + 1))), some (.int (zI r75)), none]) d_MO_inRuns_102 (by decide) rfl ?_
            refine fx_iconst d_MO_inRuns_104 ?_
            refine fx_istore (ls2 := [some (.ref 31), some (.int (zI x1)), some (.int (zI x2)), some (.int (zI (x2 - ((h.2.1 31 27) % x2)))), some (.int (zI r29)), some (.int (zI (r29 + 1))), some (.int (zI r75)), some (.int (zI 0))]) d_MO_inRuns_105 (by decide) rfl ?_
            exact fx_fewer [some (.ref 31), some (.int (zI x1)), some (.int (zI x2)), none, some (.int (zI r29)), some (.int (zI (r29 + 1))), some (.int (zI r75)), some (.int (zI 0))] ⟨rfl, rfl, rfl, rfl, rfl, rfl, rfl, trivial⟩ H
        · replace H := H.2 z68
          refine fx_iconst d_MO_inRuns_77 ?_
          refine fx_goto (n := 82) d_MO_inRuns_78 ?_
          refine fx_callV (M' := M_MO_need) (B' := (0, 0)) (vs := [.int (zI 1)]) (rest := []) (c1 := 0) (s1 := 0) (n := 85) d_MO_inRuns_82 ca_MO_inRuns_273 (at_31 (h := _) hS27) rfl rfl rfl ⟨by decide, by decide⟩ (Nat.le_of_ble_eq_true rfl) (Or.inl rfl) (fx_Mt.mono H fun v h76 hv => ?_)
          obtain ⟨r78, rfl, e77, H⟩ := hv
          have hS76 := e77.trans hS27
          show fx_V l M_MO_inRuns (0, 0) Q 0 0 85 [some (.ref 31), some (.int (zI x1)), some (.int (zI x2)), some (.int (zI (x2 - ((h.2.1 31 27) % x2)))), some (.int (zI r29)), some (.int (zI (r29 + 1))), none, none] [.int (zI r78)] h76
          refine fx_pop d_MO_inRuns_85 rfl ?_
          refine fx_iload d_MO_inRuns_86 rfl ?_
          refine fx_sipush (v := 128) d_MO_inRuns_88 rfl ?_
          refine fx_icmp_le (t := 101) (n := 94) d_MO_inRuns_91 hz30 (show zR 128 by decide) (fun z79 => ?_) (fun z79 => ?_)
          · replace H := H.1 z79
            refine fx_iconst d_MO_inRuns_101 ?_
            refine fx_istore (ls2 := [some (.ref 31), some (.int (zI x1)), some (.int (zI x2)), some (.int (zI (x2 - ((h.2.1 31 27) % x2)))), some (.int (zI r29)), some (.int (zI (r29 + 1))), some (.int (zI 0)), none]) d_MO_inRuns_102 (by decide) rfl ?_
            refine fx_iconst d_MO_inRuns_104 ?_
            refine fx_istore (ls2 := [some (.ref 31), some (.int (zI x1)), some (.int (zI x2)), some (.int (zI (x2 - ((h.2.1 31 27) % x2)))), some (.int (zI r29)), some (.int (zI (r29 + 1))), some (.int (zI 0)), some (.int (zI 0))]) d_MO_inRuns_105 (by decide) rfl ?_
            exact fx_fewer [some (.ref 31), some (.int (zI x1)), some (.int (zI x2)), none, some (.int (zI r29)), some (.int (zI (r29 + 1))), some (.int (zI 0)), some (.int (zI 0))] ⟨rfl, rfl, rfl, rfl, rfl, rfl, rfl, trivial⟩ H
          · replace H := H.2 z79
            refine fx_aload_n (i := 0) d_MO_inRuns_94 rfl rfl ?_
            refine fx_callV (M' := M_MO_inByte) (B' := (0, 0)) (vs := []) (rest := []) (c1 := 0) (s1 := 0) (n := 98) d_MO_inRuns_95 ca_MO_inRuns_283 (at_31 (h := _) hS76) rfl rfl rfl ⟨by decide, by decide⟩ (Nat.le_of_ble_eq_true rfl) (Or.inl rfl) (fx_Mt.mono H fun v h80 hv => ?_)
            obtain ⟨r82, rfl, e81, H⟩ := hv
            have hS80 := e81.trans hS76
            show fx_V l M_MO_inRuns (0, 0) Q 0 0 98 [some (.ref 31), some (.int (zI x1)), some (.int (zI x2)), some (.int (zI (x2 - ((h.2.1 31 27) % x2)))), some (.int (zI r29)), some (.int (zI (r29 + 1))), none, none] [.int (zI r82)] h80
            refine fx_goto (n := 102) d_MO_inRuns_98 ?_
            refine fx_istore (ls2 := [some (.ref 31), some (.int (zI x1)), some (.int (zI x2)), some (.int (zI (x2 - ((h.2.1 31 27) % x2)))), some (.int (zI r29)), some (.int (zI (r29 + 1))), some (.int (zI r82)), none]) d_MO_inRuns_102 (by decide) rfl ?_
            refine fx_iconst d_MO_inRuns_104 ?_
            refine fx_istore (ls2 := [some (.ref 31), some (.int (zI x1)), some (.int (zI x2)), some (.int (zI (x2 - ((h.2.1 31 27) % x2)))), some (.int (zI r29)), some (.int (zI (r29 + 1))), some (.int (zI r82)), some (.int (zI 0))]) d_MO_inRuns_105 (by decide) rfl ?_
            exact fx_fewer [some (.ref 31), some (.int (zI x1)), some (.int (zI x2)), none, some (.int (zI r29)), some (.int (zI (r29 + 1))), some (.int (zI r82)), some (.int (zI 0))] ⟨rfl, rfl, rfl, rfl, rfl, rfl, rfl, trivial⟩ H

set_option maxRecDepth 100000 in
set_option maxHeartbeats 4000000 in
theorem w_MO_inRuns_107 {l : Launch} {Q : Option Value → fx_H → Prop} {h : fx_H}  {x1 : Int} {x2 : Int} {x4 : Int} {x5 : Int} {x6 : Int} {x7 : Int}  {a : Nat → Nat} {pp dd : Nat} (hS : h.1 = fx_S0 a pp dd) 
    (H : zR x7 ∧ zR x5 ∧ ((x5 ≤ x7 → (fx_V l M_MO_inRuns (0, 0) Q 0 0 5 [some (.ref 31), some (.int (zI x1)), some (.int (zI x2)), none, none, none, none, none] [] h)) ∧ (¬ (x5 ≤ x7) → zR (h.2.1 31 22) ∧ ((¬ (h.2.1 31 22) = 0 → (fx_V l M_MO_inRuns (0, 0) Q 0 0 5 [some (.ref 31), some (.int (zI x1)), some (.int (zI x2)), none, none, none, none, none] [] h)) ∧ ((h.2.1 31 22) = 0 → zR x4 ∧ ((x4 ≤ 128 → fx_Mt l M_MO_inByte (0, 0) [.ref 31] h (fun v h8 => ∃ r10 : Int, v = some (.int (zI r10)) ∧ h8.1 = h.1 ∧ fx_Mt l M_MO_store (0, 0) [.ref 31, .int (zI r10)] h8 (fun v h11 => v = none ∧ h11.1 = h8.1 ∧ (fx_V l M_MO_inRuns (0, 0) Q 0 0 107 [some (.ref 31), some (.int (zI x1)), some (.int (zI x2)), none, some (.int (zI x4)), some (.int (zI x5)), some (.int (zI x6)), some (.int (zI (x7 + 1)))] [] h11)))) ∧ (¬ (x4 ≤ 128) → fx_Mt l M_MO_store (0, 0) [.ref 31, .int (zI x6)] h (fun v h13 => v = none ∧ h13.1 = h.1 ∧ (fx_V l M_MO_inRuns (0, 0) Q 0 0 107 [some (.ref 31), some (.int (zI x1)), some (.int (zI x2)), none, some (.int (zI x4)), some (.int (zI x5)), some (.int (zI x6)), some (.int (zI (x7 + 1)))] [] h13))))))))) :
    fx_V l M_MO_inRuns (0, 0) Q 0 0 107 [some (.ref 31), some (.int (zI x1)), some (.int (zI x2)), none, some (.int (zI x4)), some (.int (zI x5)), some (.int (zI x6)), some (.int (zI x7))] [] h := by
  refine fx_iload d_MO_inRuns_107 rfl ?_
  refine fx_iload d_MO_inRuns_109 rfl ?_
  obtain ⟨hz1, H⟩ := H
  obtain ⟨hz2, H⟩ := H
  refine fx_icmp_ge (t := 148) (n := 114) d_MO_inRuns_111 hz1 hz2 (fun z3 => ?_) (fun z3 => ?_)
  · replace H := H.1 z3
    refine fx_goto (n := 5) d_MO_inRuns_148 ?_
    exact fx_fewer [some (.ref 31), some (.int (zI x1)), some (.int (zI x2)), none, none, none, none, none] ⟨rfl, rfl, rfl, trivial⟩ H
  · replace H := H.2 z3
    refine fx_aload_n (i := 0) d_MO_inRuns_114 rfl rfl ?_
    refine fx_getI d_MO_inRuns_115 lk_MO_264 (at_31 (h := _) hS) rfl ?_
    obtain ⟨hz4, H⟩ := H
    refine fx_if_ne (t := 148) (n := 121) d_MO_inRuns_118 hz4 (fun z5 => ?_) (fun z5 => ?_)
    · replace H := H.1 z5
      refine fx_goto (n := 5) d_MO_inRuns_148 ?_
      exact fx_fewer [some (.ref 31), some (.int (zI x1)), some (.int (zI x2)), none, none, none, none, none] ⟨rfl, rfl, rfl, trivial⟩ H
    · replace H := H.2 z5
      refine fx_aload_n (i := 0) d_MO_inRuns_121 rfl rfl ?_
      refine fx_iload d_MO_inRuns_122 rfl ?_
      refine fx_sipush (v := 128) d_MO_inRuns_124 rfl ?_
      obtain ⟨hz6, H⟩ := H
      refine fx_icmp_le (t := 135) (n := 130) d_MO_inRuns_127 hz6 (show zR 128 by decide) (fun z7 => ?_) (fun z7 => ?_)
      · replace H := H.1 z7
        refine fx_aload_n (i := 0) d_MO_inRuns_135 rfl rfl ?_
        refine fx_callV (M' := M_MO_inByte) (B' := (0, 0)) (vs := []) (rest := [.ref 31]) (c1 := 0) (s1 := 0) (n := 139) d_MO_inRuns_136 ca_MO_inRuns_283 (at_31 (h := _) hS) rfl rfl rfl ⟨by decide, by decide⟩ (Nat.le_of_ble_eq_true rfl) (Or.inl rfl) (fx_Mt.mono H fun v h8 hv => ?_)
        obtain ⟨r10, rfl, e9, H⟩ := hv
        have hS8 := e9.trans hS
        show fx_V l M_MO_inRuns (0, 0) Q 0 0 139 [some (.ref 31), some (.int (zI x1)), some (.int (zI x2)), none, some (.int (zI x4)), some (.int (zI x5)), some (.int (zI x6)), some (.int (zI x7))] [.int (zI r10), .ref 31] h8
        refine fx_callV (M' := M_MO_store) (B' := (0, 0)) (vs := [.int (zI r10)]) (rest := []) (c1 := 0) (s1 := 0) (n := 142) d_MO_inRuns_139 ca_MO_inRuns_286 (at_31 (h := _) hS8) rfl rfl rfl ⟨by decide, by decide⟩ (Nat.le_of_ble_eq_true rfl) (Or.inl rfl) (fx_Mt.mono H fun v h11 hv => ?_)
        obtain ⟨rfl, e12, H⟩ := hv
        have hS11 := e12.trans hS8
        show fx_V l M_MO_inRuns (0, 0) Q 0 0 142 [some (.ref 31), some (.int (zI x1)), some (.int (zI x2)), none, some (.int (zI x4)), some (.int (zI x5)), some (.int (zI x6)), some (.int (zI x7))] [] h11
        refine fx_iinc (v := x7 + 1) (ls2 := [some (.ref 31), some (.int (zI x1)), some (.int (zI x2)), none, some (.int (zI x4)), some (.int (zI x5)), some (.int (zI x6)), some (.int (zI (x7 + 1)))]) d_MO_inRuns_142 rfl rfl (by decide) rfl ?_
        refine fx_goto (n := 107) d_MO_inRuns_145 ?_
        exact H
      · replace H := H.2 z7
        refine fx_iload d_MO_inRuns_130 rfl ?_
        refine fx_goto (n := 139) d_MO_inRuns_132 ?_
        refine fx_callV (M' := M_MO_store) (B' := (0, 0)) (vs := [.int (zI x6)]) (rest := []) (c1 := 0) (s1 := 0) (n := 142) d_MO_inRuns_139 ca_MO_inRuns_286 (at_31 (h := _) hS) rfl rfl rfl ⟨by decide, by decide⟩ (Nat.le_of_ble_eq_true rfl) (Or.inl rfl) (fx_Mt.mono H fun v h13 hv => ?_)
        obtain ⟨rfl, e14, H⟩ := hv
        have hS13 := e14.trans hS
        show fx_V l M_MO_inRuns (0, 0) Q 0 0 142 [some (.ref 31), some (.int (zI x1)), some (.int (zI x2)), none, some (.int (zI x4)), some (.int (zI x5)), some (.int (zI x6)), some (.int (zI x7))] [] h13
        refine fx_iinc (v := x7 + 1) (ls2 := [some (.ref 31), some (.int (zI x1)), some (.int (zI x2)), none, some (.int (zI x4)), some (.int (zI x5)), some (.int (zI x6)), some (.int (zI (x7 + 1)))]) d_MO_inRuns_142 rfl rfl (by decide) rfl ?_
        refine fx_goto (n := 107) d_MO_inRuns_145 ?_
        exact H

set_option maxRecDepth 100000 in
set_option maxHeartbeats 4000000 in
theorem e_MO_spread {l : Launch} {Q : Option Value → fx_H → Prop} {h : fx_H}  {x : Int} {y : Int}  {a : Nat → Nat} {pp dd : Nat} (hS : h.1 = fx_S0 a pp dd) 
    (H : fx_Mt l M_MO_rowBytes (0, 0) [.ref 31] h (fun v h1 => ∃ r3 : Int, v = some (.int (zI r3)) ∧ h1.1 = h.1 ∧ (fx_V l M_MO_spread (0, 0) Q 0 0 8 [some (.ref 31), some (.int (zI x)), some (.int (zI y)), some (.int (zI r3)), some (.int (zI 0)), none, none, none, none, none] [] h1))) :
    fx_Mt l M_MO_spread (0, 0) [.ref 31, .int (zI x), .int (zI y)] h Q := by
  refine fx_entry (ls := [some (.ref 31), some (.int (zI x)), some (.int (zI y)), none, none, none, none, none, none, none]) (by decide) (Nat.le_of_ble_eq_true rfl) rfl ?_
  refine fx_aload_n (i := 0) d_MO_spread_0 rfl rfl ?_
  refine fx_callV (M' := M_MO_rowBytes) (B' := (0, 0)) (vs := []) (rest := []) (c1 := 0) (s1 := 0) (n := 4) d_MO_spread_1 ca_MO_spread_137 (at_31 (h := _) hS) rfl rfl rfl ⟨by decide, by decide⟩ (Nat.le_of_ble_eq_true rfl) (Or.inl rfl) (fx_Mt.mono H fun v h1 hv => ?_)
  obtain ⟨r3, rfl, e2, H⟩ := hv
  have hS1 := e2.trans hS
  show fx_V l M_MO_spread (0, 0) Q 0 0 4 [some (.ref 31), some (.int (zI x)), some (.int (zI y)), none, none, none, none, none, none, none] [.int (zI r3)] h1
  refine fx_istore_n (i := 3) (ls2 := [some (.ref 31), some (.int (zI x)), some (.int (zI y)), some (.int (zI r3)), none, none, none, none, none, none]) d_MO_spread_4 rfl (by decide) rfl ?_
  refine fx_iconst d_MO_spread_5 ?_
  refine fx_istore (ls2 := [some (.ref 31), some (.int (zI x)), some (.int (zI y)), some (.int (zI r3)), some (.int (zI 0)), none, none, none, none, none]) d_MO_spread_6 (by decide) rfl ?_
  exact H

set_option maxRecDepth 100000 in
set_option maxHeartbeats 4000000 in
theorem w_MO_spread_8 {l : Launch} {Q : Option Value → fx_H → Prop} {h : fx_H}  {x1 : Int} {x2 : Int} {x3 : Int} {x4 : Int}  {a : Nat → Nat} {pp dd : Nat} (hS : h.1 = fx_S0 a pp dd) 
    (H : zR x4 ∧ zR (x3 * x2) ∧ (((x3 * x2) ≤ x4 → Q none h) ∧ (¬ ((x3 * x2) ≤ x4) → 0 ≤ x4 ∧ 0 < x3 ∧ zR x3 ∧ 0 ≤ x4 ∧ x4 < 400 ∧ zR (h.2.1 31 14) ∧ (((h.2.1 31 14) = 0 → (fx_V l M_MO_spread (0, 0) Q 0 0 62 [some (.ref 31), some (.int (zI x1)), some (.int (zI x2)), some (.int (zI x3)), some (.int (zI x4)), some (.int (zI (x1 + (x4 / x3)))), some (.int (zI (h.2.2.1 38 (x4.toNat)))), some (.int (zI 0)), none, none] [] h)) ∧ (¬ ((h.2.1 31 14) = 0) → 0 ≤ x4 ∧ 0 < x3 ∧ 0 ≤ (((h.2.1 31 15) * (x1 + (x4 / x3))) + (x4 % x3)) ∧ (((h.2.1 31 15) * (x1 + (x4 / x3))) + (x4 % x3)) < 960 ∧ (fx_V l M_MO_spread (0, 0) Q 0 0 62 [some (.ref 31), some (.int (zI x1)), some (.int (zI x2)), some (.int (zI x3)), some (.int (zI x4)), some (.int (zI (x1 + (x4 / x3)))), some (.int (zI (h.2.2.1 38 (x4.toNat)))), some (.int (zI 0)), none, none] [] (fx_uA h 34 ((((h.2.1 31 15) * (x1 + (x4 / x3))) + (x4 % x3)).toNat) (h.2.2.1 38 (x4.toNat))))))))) :
    fx_V l M_MO_spread (0, 0) Q 0 0 8 [some (.ref 31), some (.int (zI x1)), some (.int (zI x2)), some (.int (zI x3)), some (.int (zI x4)), none, none, none, none, none] [] h := by
  refine fx_iload d_MO_spread_8 rfl ?_
  refine fx_iload_n (i := 3) d_MO_spread_10 rfl rfl ?_
  refine fx_iload_n (i := 2) d_MO_spread_11 rfl rfl ?_
  refine fx_imul d_MO_spread_12 ?_
  obtain ⟨hz1, H⟩ := H
  obtain ⟨hz2, H⟩ := H
  refine fx_icmp_ge (t := 188) (n := 16) d_MO_spread_13 hz1 hz2 (fun z3 => ?_) (fun z3 => ?_)
  · replace H := H.1 z3
    exact fx_end none ⟨rfl, d_MO_spread_188⟩ (Nat.le_refl _) (Nat.le_refl _) rfl H
  · replace H := H.2 z3
    refine fx_iload_n (i := 1) d_MO_spread_16 rfl rfl ?_
    refine fx_iload d_MO_spread_17 rfl ?_
    refine fx_iload_n (i := 3) d_MO_spread_19 rfl rfl ?_
    obtain ⟨hn4, H⟩ := H
    obtain ⟨hn5, H⟩ := H
    obtain ⟨hz6, H⟩ := H
    refine fx_idiv d_MO_spread_20 hn4 hz1 hn5 hz6 ?_
    refine fx_iadd d_MO_spread_21 ?_
    refine fx_istore (ls2 := [some (.ref 31), some (.int (zI x1)), some (.int (zI x2)), some (.int (zI x3)), some (.int (zI x4)), some (.int (zI (x1 + (x4 / x3)))), none, none, none, none]) d_MO_spread_22 (by decide) rfl ?_
    refine fx_aload_n (i := 0) d_MO_spread_24 rfl rfl ?_
    refine fx_getR (q := 38) d_MO_spread_25 lk_MO_47 (at_31 (h := _) hS) rfl rfl ?_
    refine fx_iload d_MO_spread_28 rfl ?_
    obtain ⟨hn7, H⟩ := H
    obtain ⟨hn8, H⟩ := H
    refine fx_iald d_MO_spread_30 (at_38 (h := _) hS) hn7 hn8 (by decide) ?_
    refine fx_istore (ls2 := [some (.ref 31), some (.int (zI x1)), some (.int (zI x2)), some (.int (zI x3)), some (.int (zI x4)), some (.int (zI (x1 + (x4 / x3)))), some (.int (zI (h.2.2.1 38 (x4.toNat)))), none, none, none]) d_MO_spread_31 (by decide) rfl ?_
    refine fx_aload_n (i := 0) d_MO_spread_33 rfl rfl ?_
    refine fx_getI d_MO_spread_34 lk_MO_128 (at_31 (h := _) hS) rfl ?_
    obtain ⟨hz9, H⟩ := H
    refine fx_if_eq (t := 59) (n := 40) d_MO_spread_37 hz9 (fun z10 => ?_) (fun z10 => ?_)
    · replace H := H.1 z10
      refine fx_iconst d_MO_spread_59 ?_
      refine fx_istore (ls2 := [some (.ref 31), some (.int (zI x1)), some (.int (zI x2)), some (.int (zI x3)), some (.int (zI x4)), some (.int (zI (x1 + (x4 / x3)))), some (.int (zI (h.2.2.1 38 (x4.toNat)))), some (.int (zI 0)), none, none]) d_MO_spread_60 (by decide) rfl ?_
      exact H
    · replace H := H.2 z10
      refine fx_aload_n (i := 0) d_MO_spread_40 rfl rfl ?_
      refine fx_getR (q := 34) d_MO_spread_41 lk_MO_35 (at_31 (h := _) hS) rfl rfl ?_
      refine fx_aload_n (i := 0) d_MO_spread_44 rfl rfl ?_
      refine fx_getI d_MO_spread_45 lk_MO_131 (at_31 (h := _) hS) rfl ?_
      refine fx_iload d_MO_spread_48 rfl ?_
      refine fx_imul d_MO_spread_50 ?_
      refine fx_iload d_MO_spread_51 rfl ?_
      refine fx_iload_n (i := 3) d_MO_spread_53 rfl rfl ?_
      obtain ⟨hn11, H⟩ := H
      obtain ⟨hn12, H⟩ := H
      refine fx_irem d_MO_spread_54 hn11 hz1 hn12 hz6 ?_
      refine fx_iadd d_MO_spread_55 ?_
      refine fx_iload d_MO_spread_56 rfl ?_
      obtain ⟨hn13, H⟩ := H
      obtain ⟨hn14, H⟩ := H
      refine fx_iast d_MO_spread_58 (at_34 (h := _) hS) hn13 hn14 (by decide) ?_
      refine fx_iconst d_MO_spread_59 ?_
      refine fx_istore (ls2 := [some (.ref 31), some (.int (zI x1)), some (.int (zI x2)), some (.int (zI x3)), some (.int (zI x4)), some (.int (zI (x1 + (x4 / x3)))), some (.int (zI (h.2.2.1 38 (x4.toNat)))), some (.int (zI 0)), none, none]) d_MO_spread_60 (by decide) rfl ?_
      exact H

set_option maxRecDepth 100000 in
set_option maxHeartbeats 4000000 in
theorem w_MO_spread_62 {l : Launch} {Q : Option Value → fx_H → Prop} {h : fx_H}  {x1 : Int} {x2 : Int} {x3 : Int} {x4 : Int} {x5 : Int} {x6 : Int} {x7 : Int}  {a : Nat → Nat} {pp dd : Nat} (hS : h.1 = fx_S0 a pp dd) 
    (H : zR x7 ∧ ((8 ≤ x7 → (fx_V l M_MO_spread (0, 0) Q 0 0 8 [some (.ref 31), some (.int (zI x1)), some (.int (zI x2)), some (.int (zI x3)), some (.int (zI (x4 + 1))), none, none, none, none, none] [] h)) ∧ (¬ (8 ≤ x7) → zR (h.2.1 31 14) ∧ ((¬ (h.2.1 31 14) = 0 → (fx_V l M_MO_spread (0, 0) Q 0 0 8 [some (.ref 31), some (.int (zI x1)), some (.int (zI x2)), some (.int (zI x3)), some (.int (zI (x4 + 1))), none, none, none, none, none] [] h)) ∧ ((h.2.1 31 14) = 0 → 0 ≤ x4 ∧ zR x4 ∧ 0 < x3 ∧ zR x3 ∧ (0 ≤ (7 - x7) ∧ (7 - x7) < 32) ∧ zR x6 ∧ zR (((x4 % x3) * 8) + x7) ∧ zR (h.2.1 31 15) ∧ (((((x4 % x3) * 8) + x7) < (h.2.1 31 15) → fx_Mt l M_MO_need (0, 0) [.ref 31, .int (zI 1)] h (fun v h15 => ∃ r17 : Int, v = some (.int (zI r17)) ∧ h15.1 = h.1 ∧ zR (h15.2.1 31 15) ∧ (((h15.2.1 31 15) ≤ (((x4 % x3) * 8) + x7) → (((h15.2.1 31 15) ≤ (((x4 % x3) * 8) + x7) → (fx_V l M_MO_spread (0, 0) Q 0 0 62 [some (.ref 31), some (.int (zI x1)), some (.int (zI x2)), some (.int (zI x3)), some (.int (zI x4)), some (.int (zI x5)), some (.int (zI x6)), some (.int (zI (x7 + 1))), none, none] [] (fx_uA h15 34 959 (h15.2.2.1 34 959)))) ∧ (¬ ((h15.2.1 31 15) ≤ (((x4 % x3) * 8) + x7)) → (fx_V l M_MO_spread (0, 0) Q 0 0 62 [some (.ref 31), some (.int (zI x1)), some (.int (zI x2)), some (.int (zI x3)), some (.int (zI x4)), some (.int (zI x5)), some (.int (zI x6)), some (.int (zI (x7 + 1))), none, none] [] (fx_uA h15 34 959 ((x6 / 2 ^ (7 - x7).toNat) % 2)))))) ∧ (¬ ((h15.2.1 31 15) ≤ (((x4 % x3) * 8) + x7)) → (((h15.2.1 31 15) ≤ (((x4 % x3) * 8) + x7) → 0 ≤ (((h15.2.1 31 15) * x5) + (((x4 % x3) * 8) + x7)) ∧ (((h15.2.1 31 15) * x5) + (((x4 % x3) * 8) + x7)) < 960 ∧ (fx_V l M_MO_spread (0, 0) Q 0 0 62 [some (.ref 31), some (.int (zI x1)), some (.int (zI x2)), some (.int (zI x3)), some (.int (zI x4)), some (.int (zI x5)), some (.int (zI x6)), some (.int (zI (x7 + 1))), none, none] [] (fx_uA h15 34 ((((h15.2.1 31 15) * x5) + (((x4 % x3) * 8) + x7)).toNat) (h15.2.2.1 34 959)))) ∧ (¬ ((h15.2.1 31 15) ≤ (((x4 % x3) * 8) + x7)) → 0 ≤ (((h15.2.1 31 15) * x5) + (((x4 % x3) * 8) + x7)) ∧ (((h15.2.1 31 15) * x5) + (((x4 % x3) * 8) + x7)) < 960 ∧ (fx_V l M_MO_spread (0, 0) Q 0 0 62 [some (.ref 31), some (.int (zI x1)), some (.int (zI x2)), some (.int (zI x3)), some (.int (zI x4)), some (.int (zI x5)), some (.int (zI x6)), some (.int (zI (x7 + 1))), none, none] [] (fx_uA h15 34 ((((h15.2.1 31 15) * x5) + (((x4 % x3) * 8) + x7)).toNat) ((x6 / 2 ^ (7 - x7).toNat) % 2))))))))) ∧ (¬ ((((x4 % x3) * 8) + x7) < (h.2.1 31 15)) → zR ((x6 / 2 ^ (7 - x7).toNat) % 2) ∧ ((¬ ((x6 / 2 ^ (7 - x7).toNat) % 2) = 0 → fx_Mt l M_MO_need (0, 0) [.ref 31, .int (zI 0)] h (fun v h28 => ∃ r30 : Int, v = some (.int (zI r30)) ∧ h28.1 = h.1 ∧ zR (h28.2.1 31 15) ∧ (((h28.2.1 31 15) ≤ (((x4 % x3) * 8) + x7) → (((h28.2.1 31 15) ≤ (((x4 % x3) * 8) + x7) → (fx_V l M_MO_spread (0, 0) Q 0 0 62 [some (.ref 31), some (.int (zI x1)), some (.int (zI x2)), some (.int (zI x3)), some (.int (zI x4)), some (.int (zI x5)), some (.int (zI x6)), some (.int (zI (x7 + 1))), none, none] [] (fx_uA h28 34 959 (h28.2.2.1 34 959)))) ∧ (¬ ((h28.2.1 31 15) ≤ (((x4 % x3) * 8) + x7)) → (fx_V l M_MO_spread (0, 0) Q 0 0 62 [some (.ref 31), some (.int (zI x1)), some (.int (zI x2)), some (.int (zI x3)), some (.int (zI x4)), some (.int (zI x5)), some (.int (zI x6)), some (.int (zI (x7 + 1))), none, none] [] (fx_uA h28 34 959 ((x6 / 2 ^ (7 - x7).toNat) % 2)))))) ∧ (¬ ((h28.2.1 31 15) ≤ (((x4 % x3) * 8) + x7)) → (((h28.2.1 31 15) ≤ (((x4 % x3) * 8) + x7) → 0 ≤ (((h28.2.1 31 15) * x5) + (((x4 % x3) * 8) + x7)) ∧ (((h28.2.1 31 15) * x5) + (((x4 % x3) * 8) + x7)) < 960 ∧ (fx_V l M_MO_spread (0, 0) Q 0 0 62 [some (.ref 31), some (.int (zI x1)), some (.int (zI x2)), some (.int (zI x3)), some (.int (zI x4)), some (.int (zI x5)), some (.int (zI x6)), some (.int (zI (x7 + 1))), none, none] [] (fx_uA h28 34 ((((h28.2.1 31 15) * x5) + (((x4 % x3) * 8) + x7)).toNat) (h28.2.2.1 34 959)))) ∧ (¬ ((h28.2.1 31 15) ≤ (((x4 % x3) * 8) + x7)) → 0 ≤ (((h28.2.1 31 15) * x5) + (((x4 % x3) * 8) + x7)) ∧ (((h28.2.1 31 15) * x5) + (((x4 % x3) * 8) + x7)) < 960 ∧ (fx_V l M_MO_spread (0, 0) Q 0 0 62 [some (.ref 31), some (.int (zI x1)), some (.int (zI x2)), some (.int (zI x3)), some (.int (zI x4)), some (.int (zI x5)), some (.int (zI x6)), some (.int (zI (x7 + 1))), none, none] [] (fx_uA h28 34 ((((h28.2.1 31 15) * x5) + (((x4 % x3) * 8) + x7)).toNat) ((x6 / 2 ^ (7 - x7).toNat) % 2))))))))) ∧ (((x6 / 2 ^ (7 - x7).toNat) % 2) = 0 → fx_Mt l M_MO_need (0, 0) [.ref 31, .int (zI 1)] h (fun v h39 => ∃ r41 : Int, v = some (.int (zI r41)) ∧ h39.1 = h.1 ∧ zR (h39.2.1 31 15) ∧ (((h39.2.1 31 15) ≤ (((x4 % x3) * 8) + x7) → (((h39.2.1 31 15) ≤ (((x4 % x3) * 8) + x7) → (fx_V l M_MO_spread (0, 0) Q 0 0 62 [some (.ref 31), some (.int (zI x1)), some (.int (zI x2)), some (.int (zI x3)), some (.int (zI x4)), some (.int (zI x5)), some (.int (zI x6)), some (.int (zI (x7 + 1))), none, none] [] (fx_uA h39 34 959 (h39.2.2.1 34 959)))) ∧ (¬ ((h39.2.1 31 15) ≤ (((x4 % x3) * 8) + x7)) → (fx_V l M_MO_spread (0, 0) Q 0 0 62 [some (.ref 31), some (.int (zI x1)), some (.int (zI x2)), some (.int (zI x3)), some (.int (zI x4)), some (.int (zI x5)), some (.int (zI x6)), some (.int (zI (x7 + 1))), none, none] [] (fx_uA h39 34 959 ((x6 / 2 ^ (7 - x7).toNat) % 2)))))) ∧ (¬ ((h39.2.1 31 15) ≤ (((x4 % x3) * 8) + x7)) → (((h39.2.1 31 15) ≤ (((x4 % x3) * 8) + x7) → 0 ≤ (((h39.2.1 31 15) * x5) + (((x4 % x3) * 8) + x7)) ∧ (((h39.2.1 31 15) * x5) + (((x4 % x3) * 8) + x7)) < 960 ∧ (fx_V l M_MO_spread (0, 0) Q 0 0 62 [some (.ref 31), some (.int (zI x1)), some (.int (zI x2)), some (.int (zI x3)), some (.int (zI x4)), some (.int (zI x5)), some (.int (zI x6)), some (.int (zI (x7 + 1))), none, none] [] (fx_uA h39 34 ((((h39.2.1 31 15) * x5) + (((x4 % x3) * 8) + x7)).toNat) (h39.2.2.1 34 959)))) ∧ (¬ ((h39.2.1 31 15) ≤ (((x4 % x3) * 8) + x7)) → 0 ≤ (((h39.2.1 31 15) * x5) + (((x4 % x3) * 8) + x7)) ∧ (((h39.2.1 31 15) * x5) + (((x4 % x3) * 8) + x7)) < 960 ∧ (fx_V l M_MO_spread (0, 0) Q 0 0 62 [some (.ref 31), some (.int (zI x1)), some (.int (zI x2)), some (.int (zI x3)), some (.int (zI x4)), some (.int (zI x5)), some (.int (zI x6)), some (.int (zI (x7 + 1))), none, none] [] (fx_uA h39 34 ((((h39.2.1 31 15) * x5) + (((x4 % x3) * 8) + x7)).toNat) ((x6 / 2 ^ (7 - x7).toNat) % 2))))))))))))))))) :
    fx_V l M_MO_spread (0, 0) Q 0 0 62 [some (.ref 31), some (.int (zI x1)), some (.int (zI x2)), some (.int (zI x3)), some (.int (zI x4)), some (.int (zI x5)), some (.int (zI x6)), some (.int (zI x7)), none, none] [] h := by
  refine fx_iload d_MO_spread_62 rfl ?_
  refine fx_bipush (v := 8) d_MO_spread_64 rfl ?_
  obtain ⟨hz1, H⟩ := H
  refine fx_icmp_ge (t := 182) (n := 69) d_MO_spread_66 hz1 (show zR 8 by decide) (fun z2 => ?_) (fun z2 => ?_)
  · replace H := H.1 z2
    refine fx_iinc (v := x4 + 1) (ls2 := [some (.ref 31), some (.int (zI x1)), some (.int (zI x2)), some (.int (zI x3)), some (.int (zI (x4 + 1))), some (.int (zI x5)), some (.int (zI x6)), some (.int (zI x7)), none, none]) d_MO_spread_182 rfl rfl (by decide) rfl ?_
    refine fx_goto (n := 8) d_MO_spread_185 ?_
    exact fx_fewer [some (.ref 31), some (.int (zI x1)), some (.int (zI x2)), some (.int (zI x3)), some (.int (zI (x4 + 1))), none, none, none, none, none] ⟨rfl, rfl, rfl, rfl, rfl, trivial⟩ H
  · replace H := H.2 z2
    refine fx_aload_n (i := 0) d_MO_spread_69 rfl rfl ?_
    refine fx_getI d_MO_spread_70 lk_MO_128 (at_31 (h := _) hS) rfl ?_
    obtain ⟨hz3, H⟩ := H
    refine fx_if_ne (t := 182) (n := 76) d_MO_spread_73 hz3 (fun z4 => ?_) (fun z4 => ?_)
    · replace H := H.1 z4
      refine fx_iinc (v := x4 + 1) (ls2 := [some (.ref 31), some (.int (zI x1)), some (.int (zI x2)), some (.int (zI x3)), some (.int (zI (x4 + 1))), some (.int (zI x5)), some (.int (zI x6)), some (.int (zI x7)), none, none]) d_MO_spread_182 rfl rfl (by decide) rfl ?_
      refine fx_goto (n := 8) d_MO_spread_185 ?_
      exact fx_fewer [some (.ref 31), some (.int (zI x1)), some (.int (zI x2)), some (.int (zI x3)), some (.int (zI (x4 + 1))), none, none, none, none, none] ⟨rfl, rfl, rfl, rfl, rfl, trivial⟩ H
    · replace H := H.2 z4
      refine fx_iload d_MO_spread_76 rfl ?_
      refine fx_iload_n (i := 3) d_MO_spread_78 rfl rfl ?_
      obtain ⟨hn5, H⟩ := H
      obtain ⟨hz6, H⟩ := H
      obtain ⟨hn7, H⟩ := H
      obtain ⟨hz8, H⟩ := H
      refine fx_irem d_MO_spread_79 hn5 hz6 hn7 hz8 ?_
      refine fx_bipush (v := 8) d_MO_spread_80 rfl ?_
      refine fx_imul d_MO_spread_82 ?_
      refine fx_iload d_MO_spread_83 rfl ?_
      refine fx_iadd d_MO_spread_85 ?_
      refine fx_istore (ls2 := [some (.ref 31), some (.int (zI x1)), some (.int (zI x2)), some (.int (zI x3)), some (.int (zI x4)), some (.int (zI x5)), some (.int (zI x6)), some (.int (zI x7)), some (.int (zI (((x4 % x3) * 8) + x7))), none]) d_MO_spread_86 (by decide) rfl ?_
      refine fx_iload d_MO_spread_88 rfl ?_
      refine fx_bipush (v := 7) d_MO_spread_90 rfl ?_
      refine fx_iload d_MO_spread_92 rfl ?_
      refine fx_isub d_MO_spread_94 ?_
      obtain ⟨hn9, H⟩ := H
      have ez10 : (((7 - x7).toNat : Nat) : Int) = 7 - x7 := Int.toNat_of_nonneg hn9.1
      refine fx_eqv (st2 := [(.int (zI (((7 - x7).toNat : Nat) : Int))), .int (zI x6)]) (by rw [ez10]) ?_
      obtain ⟨hz11, H⟩ := H
      refine fx_ishr (j := (7 - x7).toNat) d_MO_spread_95 hz11 (by omega) ?_
      refine fx_iconst d_MO_spread_96 ?_
      refine fx_and1 d_MO_spread_97 ?_
      refine fx_istore (ls2 := [some (.ref 31), some (.int (zI x1)), some (.int (zI x2)), some (.int (zI x3)), some (.int (zI x4)), some (.int (zI x5)), some (.int (zI x6)), some (.int (zI x7)), some (.int (zI (((x4 % x3) * 8) + x7))), some (.int (zI ((x6 / 2 ^ (7 - x7).toNat) % 2)))]) d_MO_spread_98 (by decide) rfl ?_
      refine fx_aload_n (i := 0) d_MO_spread_100 rfl rfl ?_
      refine fx_iload d_MO_spread_101 rfl ?_
      refine fx_aload_n (i := 0) d_MO_spread_103 rfl rfl ?_
      refine fx_getI d_MO_spread_104 lk_MO_131 (at_31 (h := _) hS) rfl ?_
      obtain ⟨hz12, H⟩ := H
      obtain ⟨hz13, H⟩ := H
      refine fx_icmp_lt (t := 115) (n := 110) d_MO_spread_107 hz12 hz13 (fun z14 => ?_) (fun z14 => ?_)
      · replace H := H.1 z14
        refine fx_iconst d_MO_spread_115 ?_
        refine fx_goto (n := 120) d_MO_spread_116 ?_
        refine fx_callV (M' := M_MO_need) (B' := (0, 0)) (vs := [.int (zI 1)]) (rest := []) (c1 := 0) (s1 := 0) (n := 123) d_MO_spread_120 ca_MO_spread_273 (at_31 (h := _) hS) rfl rfl rfl ⟨by decide, by decide⟩ (Nat.le_of_ble_eq_true rfl) (Or.inl rfl) (fx_Mt.mono H fun v h15 hv => ?_)
        obtain ⟨r17, rfl, e16, H⟩ := hv
        have hS15 := e16.trans hS
        show fx_V l M_MO_spread (0, 0) Q 0 0 123 [some (.ref 31), some (.int (zI x1)), some (.int (zI x2)), some (.int (zI x3)), some (.int (zI x4)), some (.int (zI x5)), some (.int (zI x6)), some (.int (zI x7)), some (.int (zI (((x4 % x3) * 8) + x7))), some (.int (zI ((x6 / 2 ^ (7 - x7).toNat) % 2)))] [.int (zI r17)] h15
        refine fx_pop d_MO_spread_123 rfl ?_
        refine fx_aload_n (i := 0) d_MO_spread_124 rfl rfl ?_
        refine fx_getR (q := 34) d_MO_spread_125 lk_MO_35 (at_31 (h := _) hS15) rfl rfl ?_
        refine fx_iload d_MO_spread_128 rfl ?_
        refine fx_aload_n (i := 0) d_MO_spread_130 rfl rfl ?_
        refine fx_getI d_MO_spread_131 lk_MO_131 (at_31 (h := _) hS15) rfl ?_
        obtain ⟨hz18, H⟩ := H
        refine fx_icmp_ge (t := 150) (n := 137) d_MO_spread_134 hz12 hz18 (fun z19 => ?_) (fun z19 => ?_)
        · replace H := H.1 z19
          refine fx_sipush (v := 959) d_MO_spread_150 rfl ?_
          refine fx_iload d_MO_spread_153 rfl ?_
          refine fx_aload_n (i := 0) d_MO_spread_155 rfl rfl ?_
          refine fx_getI d_MO_spread_156 lk_MO_131 (at_31 (h := _) hS15) rfl ?_
          refine fx_icmp_ge (t := 167) (n := 162) d_MO_spread_159 hz12 hz18 (fun z20 => ?_) (fun z20 => ?_)
          · replace H := H.1 z20
            refine fx_aload_n (i := 0) d_MO_spread_167 rfl rfl ?_
            refine fx_getR (q := 34) d_MO_spread_168 lk_MO_35 (at_31 (h := _) hS15) rfl rfl ?_
            refine fx_sipush (v := 959) d_MO_spread_171 rfl ?_
            refine fx_iald d_MO_spread_174 (at_34 (h := _) hS15) (by decide) (by decide) (by decide) ?_
            refine fx_iast d_MO_spread_175 (at_34 (h := _) hS15) (by decide) (by decide) (by decide) ?_
            refine fx_iinc (v := x7 + 1) (ls2 := [some (.ref 31), some (.int (zI x1)), some (.int (zI x2)), some (.int (zI x3)), some (.int (zI x4)), some (.int (zI x5)), some (.int (zI x6)), some (.int (zI (x7 + 1))), some (.int (zI (((x4 % x3) * 8) + x7))), some (.int (zI ((x6 / 2 ^ (7 - x7).toNat) % 2)))]) d_MO_spread_176 rfl rfl (by decide) rfl ?_
            refine fx_goto (n := 62) d_MO_spread_179 ?_
            exact fx_fewer [some (.ref 31), some (.int (zI x1)), some (.int (zI x2)), some (.int (zI x3)), some (.int (zI x4)), some (.int (zI x5)), some (.int (zI x6)), some (.int (zI (x7 + 1))), none, none] ⟨rfl, rfl, rfl, rfl, rfl, rfl, rfl, rfl, trivial⟩ H
          · replace H := H.2 z20
            refine fx_iload d_MO_spread_162 rfl ?_
            refine fx_goto (n := 175) d_MO_spread_164 ?_
            refine fx_iast d_MO_spread_175 (at_34 (h := _) hS15) (by decide) (by decide) (by decide) ?_
            refine fx_iinc (v := x7 + 1) (ls2 := [some (.ref 31), some (.int (zI x1)), some (.int (zI x2)), some (.int (zI x3)), some (.int (zI x4)), some (.int (zI x5)), some (.int (zI x6)), some (.int (zI (x7 + 1))), some (.int (zI (((x4 % x3) * 8) + x7))), some (.int (zI ((x6 / 2 ^ (7 - x7).toNat) % 2)))]) d_MO_spread_176 rfl rfl (by decide) rfl ?_
            refine fx_goto (n := 62) d_MO_spread_179 ?_
            exact fx_fewer [some (.ref 31), some (.int (zI x1)), some (.int (zI x2)), some (.int (zI x3)), some (.int (zI x4)), some (.int (zI x5)), some (.int (zI x6)), some (.int (zI (x7 + 1))), none, none] ⟨rfl, rfl, rfl, rfl, rfl, rfl, rfl, rfl, trivial⟩ H
        · replace H := H.2 z19
          refine fx_aload_n (i := 0) d_MO_spread_137 rfl rfl ?_
          refine fx_getI d_MO_spread_138 lk_MO_131 (at_31 (h := _) hS15) rfl ?_
          refine fx_iload d_MO_spread_141 rfl ?_
          refine fx_imul d_MO_spread_143 ?_
          refine fx_iload d_MO_spread_144 rfl ?_
          refine fx_iadd d_MO_spread_146 ?_
          refine fx_goto (n := 153) d_MO_spread_147 ?_
          refine fx_iload d_MO_spread_153 rfl ?_
          refine fx_aload_n (i := 0) d_MO_spread_155 rfl rfl ?_
          refine fx_getI d_MO_spread_156 lk_MO_131 (at_31 (h := _) hS15) rfl ?_
          refine fx_icmp_ge (t := 167) (n := 162) d_MO_spread_159 hz12 hz18 (fun z21 => ?_) (fun z21 => ?_)
          · replace H := H.1 z21
            refine fx_aload_n (i := 0) d_MO_spread_167 rfl rfl ?_
            refine fx_getR (q := 34) d_MO_spread_168 lk_MO_35 (at_31 (h := _) hS15) rfl rfl ?_
            refine fx_sipush (v := 959) d_MO_spread_171 rfl ?_
            refine fx_iald d_MO_spread_174 (at_34 (h := _) hS15) (by decide) (by decide) (by decide) ?_
            obtain ⟨hn22, H⟩ := H
            obtain ⟨hn23, H⟩ := H
            refine fx_iast d_MO_spread_175 (at_34 (h := _) hS15) hn22 hn23 (by decide) ?_
            refine fx_iinc (v := x7 + 1) (ls2 := [some (.ref 31), some (.int (zI x1)), some (.int (zI x2)), some (.int (zI x3)), some (.int (zI x4)), some (.int (zI x5)), some (.int (zI x6)), some (.int (zI (x7 + 1))), some (.int (zI (((x4 % x3) * 8) + x7))), some (.int (zI ((x6 / 2 ^ (7 - x7).toNat) % 2)))]) d_MO_spread_176 rfl rfl (by decide) rfl ?_
            refine fx_goto (n := 62) d_MO_spread_179 ?_
            exact fx_fewer [some (.ref 31), some (.int (zI x1)), some (.int (zI x2)), some (.int (zI x3)), some (.int (zI x4)), some (.int (zI x5)), some (.int (zI x6)), some (.int (zI (x7 + 1))), none, none] ⟨rfl, rfl, rfl, rfl, rfl, rfl, rfl, rfl, trivial⟩ H
          · replace H := H.2 z21
            refine fx_iload d_MO_spread_162 rfl ?_
            refine fx_goto (n := 175) d_MO_spread_164 ?_
            obtain ⟨hn24, H⟩ := H
            obtain ⟨hn25, H⟩ := H
            refine fx_iast d_MO_spread_175 (at_34 (h := _) hS15) hn24 hn25 (by decide) ?_
            refine fx_iinc (v := x7 + 1) (ls2 := [some (.ref 31), some (.int (zI x1)), some (.int (zI x2)), some (.int (zI x3)), some (.int (zI x4)), some (.int (zI x5)), some (.int (zI x6)), some (.int (zI (x7 + 1))), some (.int (zI (((x4 % x3) * 8) + x7))), some (.int (zI ((x6 / 2 ^ (7 - x7).toNat) % 2)))]) d_MO_spread_176 rfl rfl (by decide) rfl ?_
            refine fx_goto (n := 62) d_MO_spread_179 ?_
            exact fx_fewer [some (.ref 31), some (.int (zI x1)), some (.int (zI x2)), some (.int (zI x3)), some (.int (zI x4)), some (.int (zI x5)), some (.int (zI x6)), some (.int (zI (x7 + 1))), none, none] ⟨rfl, rfl, rfl, rfl, rfl, rfl, rfl, rfl, trivial⟩ H
      · replace H := H.2 z14
        refine fx_iload d_MO_spread_110 rfl ?_
        obtain ⟨hz26, H⟩ := H
        refine fx_if_ne (t := 119) (n := 115) d_MO_spread_112 hz26 (fun z27 => ?_) (fun z27 => ?_)
        · replace H := H.1 z27
          refine fx_iconst d_MO_spread_119 ?_
          refine fx_callV (M' := M_MO_need) (B' := (0, 0)) (vs := [.int (zI 0)]) (rest := []) (c1 := 0) (s1 := 0) (n := 123) d_MO_spread_120 ca_MO_spread_273 (at_31 (h := _) hS) rfl rfl rfl ⟨by decide, by decide⟩ (Nat.le_of_ble_eq_true rfl) (Or.inl rfl) (fx_Mt.mono H fun v h28 hv => ?_)
          obtain ⟨r30, rfl, e29, H⟩ := hv
          have hS28 := e29.trans hS
          show fx_V l M_MO_spread (0, 0) Q 0 0 123 [some (.ref 31), some (.int (zI x1)), some (.int (zI x2)), some (.int (zI x3)), some (.int (zI x4)), some (.int (zI x5)), some (.int (zI x6)), some (.int (zI x7)), some (.int (zI (((x4 % x3) * 8) + x7))), some (.int (zI ((x6 / 2 ^ (7 - x7).toNat) % 2)))] [.int (zI r30)] h28
          refine fx_pop d_MO_spread_123 rfl ?_
          refine fx_aload_n (i := 0) d_MO_spread_124 rfl rfl ?_
          refine fx_getR (q := 34) d_MO_spread_125 lk_MO_35 (at_31 (h := _) hS28) rfl rfl ?_
          refine fx_iload d_MO_spread_128 rfl ?_
          refine fx_aload_n (i := 0) d_MO_spread_130 rfl rfl ?_
          refine fx_getI d_MO_spread_131 lk_MO_131 (at_31 (h := _) hS28) rfl ?_
          obtain ⟨hz31, H⟩ := H
          refine fx_icmp_ge (t := 150) (n := 137) d_MO_spread_134 hz12 hz31 (fun z32 => ?_) (fun z32 => ?_)
          · replace H := H.1 z32
            refine fx_sipush (v := 959) d_MO_spread_150 rfl ?_
            refine fx_iload d_MO_spread_153 rfl ?_
            refine fx_aload_n (i := 0) d_MO_spread_155 rfl rfl ?_
            refine fx_getI d_MO_spread_156 lk_MO_131 (at_31 (h := _) hS28) rfl ?_
            refine fx_icmp_ge (t := 167) (n := 162) d_MO_spread_159 hz12 hz31 (fun z33 => ?_) (fun z33 => ?_)
            · replace H := H.1 z33
              refine fx_aload_n (i := 0) d_MO_spread_167 rfl rfl ?_
              refine fx_getR (q := 34) d_MO_spread_168 lk_MO_35 (at_31 (h := _) hS28) rfl rfl ?_
              refine fx_sipush (v := 959) d_MO_spread_171 rfl ?_
              refine fx_iald d_MO_spread_174 (at_34 (h := _) hS28) (by decide) (by decide) (by decide) ?_
              refine fx_iast d_MO_spread_175 (at_34 (h := _) hS28) (by decide) (by decide) (by decide) ?_
              refine fx_iinc (v := x7 + 1) (ls2 := [some (.ref 31), some (.int (zI x1)), some (.int (zI x2)), some (.int (zI x3)), some (.int (zI x4)), some (.int (zI x5)), some (.int (zI x6)), some (.int (zI (x7 + 1))), some (.int (zI (((x4 % x3) * 8) + x7))), some (.int (zI ((x6 / 2 ^ (7 - x7).toNat) % 2)))]) d_MO_spread_176 rfl rfl (by decide) rfl ?_
              refine fx_goto (n := 62) d_MO_spread_179 ?_
              exact fx_fewer [some (.ref 31), some (.int (zI x1)), some (.int (zI x2)), some (.int (zI x3)), some (.int (zI x4)), some (.int (zI x5)), some (.int (zI x6)), some (.int (zI (x7 + 1))), none, none] ⟨rfl, rfl, rfl, rfl, rfl, rfl, rfl, rfl, trivial⟩ H
            · replace H := H.2 z33
              refine fx_iload d_MO_spread_162 rfl ?_
              refine fx_goto (n := 175) d_MO_spread_164 ?_
              refine fx_iast d_MO_spread_175 (at_34 (h := _) hS28) (by decide) (by decide) (by decide) ?_
              refine fx_iinc (v := x7 + 1) (ls2 := [some (.ref 31), some (.int (zI x1)), some (.int (zI x2)), some (.int (zI x3)), some (.int (zI x4)), some (.int (zI x5)), some (.int (zI x6)), some (.int (zI (x7 + 1))), some (.int (zI (((x4 % x3) * 8) + x7))), some (.int (zI ((x6 / 2 ^ (7 - x7).toNat) % 2)))]) d_MO_spread_176 rfl rfl (by decide) rfl ?_
              refine fx_goto (n := 62) d_MO_spread_179 ?_
              exact fx_fewer [some (.ref 31), some (.int (zI x1)), some (.int (zI x2)), some (.int (zI x3)), some (.int (zI x4)), some (.int (zI x5)), some (.int (zI x6)), some (.int (zI (x7 + 1))), none, none] ⟨rfl, rfl, rfl, rfl, rfl, rfl, rfl, rfl, trivial⟩ H
          · replace H := H.2 z32
            refine fx_aload_n (i := 0) d_MO_spread_137 rfl rfl ?_
            refine fx_getI d_MO_spread_138 lk_MO_131 (at_31 (h := _) hS28) rfl ?_
            refine fx_iload d_MO_spread_141 rfl ?_
            refine fx_imul d_MO_spread_143 ?_
            refine fx_iload d_MO_spread_144 rfl ?_
            refine fx_iadd d_MO_spread_146 ?_
            refine fx_goto (n := 153) d_MO_spread_147 ?_
            refine fx_iload d_MO_spread_153 rfl ?_
            refine fx_aload_n (i := 0) d_MO_spread_155 rfl rfl ?_
            refine fx_getI d_MO_spread_156 lk_MO_131 (at_31 (h := _) hS28) rfl ?_
            refine fx_icmp_ge (t := 167) (n := 162) d_MO_spread_159 hz12 hz31 (fun z34 => ?_) (fun z34 => ?_)
            · replace H := H.1 z34
              refine fx_aload_n (i := 0) d_MO_spread_167 rfl rfl ?_
              refine fx_getR (q := 34) d_MO_spread_168 lk_MO_35 (at_31 (h := _) hS28) rfl rfl ?_
              refine fx_sipush (v := 959) d_MO_spread_171 rfl ?_
              refine fx_iald d_MO_spread_174 (at_34 (h := _) hS28) (by decide) (by decide) (by decide) ?_
              obtain ⟨hn35, H⟩ := H
              obtain ⟨hn36, H⟩ := H
              refine fx_iast d_MO_spread_175 (at_34 (h := _) hS28) hn35 hn36 (by decide) ?_
              refine fx_iinc (v := x7 + 1) (ls2 := [some (.ref 31), some (.int (zI x1)), some (.int (zI x2)), some (.int (zI x3)), some (.int (zI x4)), some (.int (zI x5)), some (.int (zI x6)), some (.int (zI (x7 + 1))), some (.int (zI (((x4 % x3) * 8) + x7))), some (.int (zI ((x6 / 2 ^ (7 - x7).toNat) % 2)))]) d_MO_spread_176 rfl rfl (by decide) rfl ?_
              refine fx_goto (n := 62) d_MO_spread_179 ?_
              exact fx_fewer [some (.ref 31), some (.int (zI x1)), some (.int (zI x2)), some (.int (zI x3)), some (.int (zI x4)), some (.int (zI x5)), some (.int (zI x6)), some (.int (zI (x7 + 1))), none, none] ⟨rfl, rfl, rfl, rfl, rfl, rfl, rfl, rfl, trivial⟩ H
            · replace H := H.2 z34
              refine fx_iload d_MO_spread_162 rfl ?_
              refine fx_goto (n := 175) d_MO_spread_164 ?_
              obtain ⟨hn37, H⟩ := H
              obtain ⟨hn38, H⟩ := H
              refine fx_iast d_MO_spread_175 (at_34 (h := _) hS28) hn37 hn38 (by decide) ?_
              refine fx_iinc (v := x7 + 1) (ls2 := [some (.ref 31), some (.int (zI x1)), some (.int (zI x2)), some (.int (zI x3)), some (.int (zI x4)), some (.int (zI x5)), some (.int (zI x6)), some (.int (zI (x7 + 1))), some (.int (zI (((x4 % x3) * 8) + x7))), some (.int (zI ((x6 / 2 ^ (7 - x7).toNat) % 2)))]) d_MO_spread_176 rfl rfl (by decide) rfl ?_
              refine fx_goto (n := 62) d_MO_spread_179 ?_
              exact fx_fewer [some (.ref 31), some (.int (zI x1)), some (.int (zI x2)), some (.int (zI x3)), some (.int (zI x4)), some (.int (zI x5)), some (.int (zI x6)), some (.int (zI (x7 + 1))), none, none] ⟨rfl, rfl, rfl, rfl, rfl, rfl, rfl, rfl, trivial⟩ H
        · replace H := H.2 z27
          refine fx_iconst d_MO_spread_115 ?_
          refine fx_goto (n := 120) d_MO_spread_116 ?_
          refine fx_callV (M' := M_MO_need) (B' := (0, 0)) (vs := [.int (zI 1)]) (rest := []) (c1 := 0) (s1 := 0) (n := 123) d_MO_spread_120 ca_MO_spread_273 (at_31 (h := _) hS) rfl rfl rfl ⟨by decide, by decide⟩ (Nat.le_of_ble_eq_true rfl) (Or.inl rfl) (fx_Mt.mono H fun v h39 hv => ?_)
          obtain ⟨r41, rfl, e40, H⟩ := hv
          have hS39 := e40.trans hS
          show fx_V l M_MO_spread (0, 0) Q 0 0 123 [some (.ref 31), some (.int (zI x1)), some (.int (zI x2)), some (.int (zI x3)), some (.int (zI x4)), some (.int (zI x5)), some (.int (zI x6)), some (.int (zI x7)), some (.int (zI (((x4 % x3) * 8) + x7))), some (.int (zI ((x6 / 2 ^ (7 - x7).toNat) % 2)))] [.int (zI r41)] h39
          refine fx_pop d_MO_spread_123 rfl ?_
          refine fx_aload_n (i := 0) d_MO_spread_124 rfl rfl ?_
          refine fx_getR (q := 34) d_MO_spread_125 lk_MO_35 (at_31 (h := _) hS39) rfl rfl ?_
          refine fx_iload d_MO_spread_128 rfl ?_
          refine fx_aload_n (i := 0) d_MO_spread_130 rfl rfl ?_
          refine fx_getI d_MO_spread_131 lk_MO_131 (at_31 (h := _) hS39) rfl ?_
          obtain ⟨hz42, H⟩ := H
          refine fx_icmp_ge (t := 150) (n := 137) d_MO_spread_134 hz12 hz42 (fun z43 => ?_) (fun z43 => ?_)
          · replace H := H.1 z43
            refine fx_sipush (v := 959) d_MO_spread_150 rfl ?_
            refine fx_iload d_MO_spread_153 rfl ?_
            refine fx_aload_n (i := 0) d_MO_spread_155 rfl rfl ?_
            refine fx_getI d_MO_spread_156 lk_MO_131 (at_31 (h := _) hS39) rfl ?_
            refine fx_icmp_ge (t := 167) (n := 162) d_MO_spread_159 hz12 hz42 (fun z44 => ?_) (fun z44 => ?_)
            · replace H := H.1 z44
              refine fx_aload_n (i := 0) d_MO_spread_167 rfl rfl ?_
              refine fx_getR (q := 34) d_MO_spread_168 lk_MO_35 (at_31 (h := _) hS39) rfl rfl ?_
              refine fx_sipush (v := 959) d_MO_spread_171 rfl ?_
              refine fx_iald d_MO_spread_174 (at_34 (h := _) hS39) (by decide) (by decide) (by decide) ?_
              refine fx_iast d_MO_spread_175 (at_34 (h := _) hS39) (by decide) (by decide) (by decide) ?_
              refine fx_iinc (v := x7 + 1) (ls2 := [some (.ref 31), some (.int (zI x1)), some (.int (zI x2)), some (.int (zI x3)), some (.int (zI x4)), some (.int (zI x5)), some (.int (zI x6)), some (.int (zI (x7 + 1))), some (.int (zI (((x4 % x3) * 8) + x7))), some (.int (zI ((x6 / 2 ^ (7 - x7).toNat) % 2)))]) d_MO_spread_176 rfl rfl (by decide) rfl ?_
              refine fx_goto (n := 62) d_MO_spread_179 ?_
              exact fx_fewer [some (.ref 31), some (.int (zI x1)), some (.int (zI x2)), some (.int (zI x3)), some (.int (zI x4)), some (.int (zI x5)), some (.int (zI x6)), some (.int (zI (x7 + 1))), none, none] ⟨rfl, rfl, rfl, rfl, rfl, rfl, rfl, rfl, trivial⟩ H
            · replace H := H.2 z44
              refine fx_iload d_MO_spread_162 rfl ?_
              refine fx_goto (n := 175) d_MO_spread_164 ?_
              refine fx_iast d_MO_spread_175 (at_34 (h := _) hS39) (by decide) (by decide) (by decide) ?_
              refine fx_iinc (v := x7 + 1) (ls2 := [some (.ref 31), some (.int (zI x1)), some (.int (zI x2)), some (.int (zI x3)), some (.int (zI x4)), some (.int (zI x5)), some (.int (zI x6)), some (.int (zI (x7 + 1))), some (.int (zI (((x4 % x3) * 8) + x7))), some (.int (zI ((x6 / 2 ^ (7 - x7).toNat) % 2)))]) d_MO_spread_176 rfl rfl (by decide) rfl ?_
              refine fx_goto (n := 62) d_MO_spread_179 ?_
              exact fx_fewer [some (.ref 31), some (.int (zI x1)), some (.int (zI x2)), some (.int (zI x3)), some (.int (zI x4)), some (.int (zI x5)), some (.int (zI x6)), some (.int (zI (x7 + 1))), none, none] ⟨rfl, rfl, rfl, rfl, rfl, rfl, rfl, rfl, trivial⟩ H
          · replace H := H.2 z43
            refine fx_aload_n (i := 0) d_MO_spread_137 rfl rfl ?_
            refine fx_getI d_MO_spread_138 lk_MO_131 (at_31 (h := _) hS39) rfl ?_
            refine fx_iload d_MO_spread_141 rfl ?_
            refine fx_imul d_MO_spread_143 ?_
            refine fx_iload d_MO_spread_144 rfl ?_
            refine fx_iadd d_MO_spread_146 ?_
            refine fx_goto (n := 153) d_MO_spread_147 ?_
            refine fx_iload d_MO_spread_153 rfl ?_
            refine fx_aload_n (i := 0) d_MO_spread_155 rfl rfl ?_
            refine fx_getI d_MO_spread_156 lk_MO_131 (at_31 (h := _) hS39) rfl ?_
            refine fx_icmp_ge (t := 167) (n := 162) d_MO_spread_159 hz12 hz42 (fun z45 => ?_) (fun z45 => ?_)
            · replace H := H.1 z45
              refine fx_aload_n (i := 0) d_MO_spread_167 rfl rfl ?_
              refine fx_getR (q := 34) d_MO_spread_168 lk_MO_35 (at_31 (h := _) hS39) rfl rfl ?_
              refine fx_sipush (v := 959) d_MO_spread_171 rfl ?_
              refine fx_iald d_MO_spread_174 (at_34 (h := _) hS39) (by decide) (by decide) (by decide) ?_
              obtain ⟨hn46, H⟩ := H
              obtain ⟨hn47, H⟩ := H
              refine fx_iast d_MO_spread_175 (at_34 (h := _) hS39) hn46 hn47 (by decide) ?_
              refine fx_iinc (v := x7 + 1) (ls2 := [some (.ref 31), some (.int (zI x1)), some (.int (zI x2)), some (.int (zI x3)), some (.int (zI x4)), some (.int (zI x5)), some (.int (zI x6)), some (.int (zI (x7 + 1))), some (.int (zI (((x4 % x3) * 8) + x7))), some (.int (zI ((x6 / 2 ^ (7 - x7).toNat) % 2)))]) d_MO_spread_176 rfl rfl (by decide) rfl ?_
              refine fx_goto (n := 62) d_MO_spread_179 ?_
              exact fx_fewer [some (.ref 31), some (.int (zI x1)), some (.int (zI x2)), some (.int (zI x3)), some (.int (zI x4)), some (.int (zI x5)), some (.int (zI x6)), some (.int (zI (x7 + 1))), none, none] ⟨rfl, rfl, rfl, rfl, rfl, rfl, rfl, rfl, trivial⟩ H
            · replace H := H.2 z45
              refine fx_iload d_MO_spread_162 rfl ?_
              refine fx_goto (n := 175) d_MO_spread_164 ?_
              obtain ⟨hn48, H⟩ := H
              obtain ⟨hn49, H⟩ := H
              refine fx_iast d_MO_spread_175 (at_34 (h := _) hS39) hn48 hn49 (by decide) ?_
              refine fx_iinc (v := x7 + 1) (ls2 := [some (.ref 31), some (.int (zI x1)), some (.int (zI x2)), some (.int (zI x3)), some (.int (zI x4)), some (.int (zI x5)), some (.int (zI x6)), some (.int (zI (x7 + 1))), some (.int (zI (((x4 % x3) * 8) + x7))), some (.int (zI ((x6 / 2 ^ (7 - x7).toNat) % 2)))]) d_MO_spread_176 rfl rfl (by decide) rfl ?_
              refine fx_goto (n := 62) d_MO_spread_179 ?_
              exact fx_fewer [some (.ref 31), some (.int (zI x1)), some (.int (zI x2)), some (.int (zI x3)), some (.int (zI x4)), some (.int (zI x5)), some (.int (zI x6)), some (.int (zI (x7 + 1))), none, none] ⟨rfl, rfl, rfl, rfl, rfl, rfl, rfl, rfl, trivial⟩ H

