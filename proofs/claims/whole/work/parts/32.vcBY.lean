/-! what is owed of the numbers, by program (wip/printvc.py) -/
set_option maxRecDepth 100000 in
set_option maxHeartbeats 4000000 in
theorem e_BY_has {l : Launch} {Q : Option Value → fx_H → Prop} {h : fx_H}  {x : Int}  {a : Nat → Nat} {pp dd : Nat} (hS : h.1 = fx_S0 a pp dd) 
    (H : zR x ∧ ((x < 0 → Q (some (.int (zI 0))) h) ∧ (¬ (x < 0) → zR (h.2.1 1 1) ∧ (((h.2.1 1 1) ≤ x → Q (some (.int (zI 0))) h) ∧ (¬ ((h.2.1 1 1) ≤ x) → Q (some (.int (zI 1))) h))))) :
    fx_Mt l M_BY_has (0, 0) [.ref 1, .int (zI x)] h Q := by
  refine fx_entry (ls := [some (.ref 1), some (.int (zI x))]) (by decide) (Nat.le_of_ble_eq_true rfl) rfl ?_
  refine fx_iload_n (i := 1) d_BY_has_0 rfl rfl ?_
  obtain ⟨hz1, H⟩ := H
  refine fx_if_lt (t := 16) (n := 4) d_BY_has_1 hz1 (fun z2 => ?_) (fun z2 => ?_)
  · replace H := H.1 z2
    refine fx_iconst d_BY_has_16 ?_
    exact fx_end (some (.int (zI 0))) ⟨⟨_, rfl, rfl⟩, d_BY_has_17⟩ (Nat.le_refl _) (Nat.le_refl _) rfl H
  · replace H := H.2 z2
    refine fx_iload_n (i := 1) d_BY_has_4 rfl rfl ?_
    refine fx_aload_n (i := 0) d_BY_has_5 rfl rfl ?_
    refine fx_getI d_BY_has_6 lk_BY_15 (at_1 (h := _) hS) rfl ?_
    obtain ⟨hz3, H⟩ := H
    refine fx_icmp_ge (t := 16) (n := 12) d_BY_has_9 hz1 hz3 (fun z4 => ?_) (fun z4 => ?_)
    · replace H := H.1 z4
      refine fx_iconst d_BY_has_16 ?_
      exact fx_end (some (.int (zI 0))) ⟨⟨_, rfl, rfl⟩, d_BY_has_17⟩ (Nat.le_refl _) (Nat.le_refl _) rfl H
    · replace H := H.2 z4
      refine fx_iconst d_BY_has_12 ?_
      refine fx_goto (n := 17) d_BY_has_13 ?_
      exact fx_end (some (.int (zI 1))) ⟨⟨_, rfl, rfl⟩, d_BY_has_17⟩ (Nat.le_refl _) (Nat.le_refl _) rfl H

set_option maxRecDepth 100000 in
set_option maxHeartbeats 4000000 in
theorem e_BY_byteAt {l : Launch} {Q : Option Value → fx_H → Prop} {h : fx_H}  {x : Int}  {a : Nat → Nat} {pp dd : Nat} (hS : h.1 = fx_S0 a pp dd) 
    (H : zR x ∧ ((x < 0 → Q (some (.int (zI 0))) h) ∧ (¬ (x < 0) → zR (h.2.1 1 1) ∧ (((h.2.1 1 1) ≤ x → Q (some (.int (zI 0))) h) ∧ (¬ ((h.2.1 1 1) ≤ x) → 0 ≤ x ∧ x < 2000 ∧ Q (some (.int (zI (h.2.2.1 2 (x.toNat))))) h))))) :
    fx_Mt l M_BY_byteAt (0, 0) [.ref 1, .int (zI x)] h Q := by
  refine fx_entry (ls := [some (.ref 1), some (.int (zI x))]) (by decide) (Nat.le_of_ble_eq_true rfl) rfl ?_
  refine fx_iload_n (i := 1) d_BY_byteAt_0 rfl rfl ?_
  obtain ⟨hz1, H⟩ := H
  refine fx_if_lt (t := 21) (n := 4) d_BY_byteAt_1 hz1 (fun z2 => ?_) (fun z2 => ?_)
  · replace H := H.1 z2
    refine fx_iconst d_BY_byteAt_21 ?_
    exact fx_end (some (.int (zI 0))) ⟨⟨_, rfl, rfl⟩, d_BY_byteAt_22⟩ (Nat.le_refl _) (Nat.le_refl _) rfl H
  · replace H := H.2 z2
    refine fx_iload_n (i := 1) d_BY_byteAt_4 rfl rfl ?_
    refine fx_aload_n (i := 0) d_BY_byteAt_5 rfl rfl ?_
    refine fx_getI d_BY_byteAt_6 lk_BY_15 (at_1 (h := _) hS) rfl ?_
    obtain ⟨hz3, H⟩ := H
    refine fx_icmp_ge (t := 21) (n := 12) d_BY_byteAt_9 hz1 hz3 (fun z4 => ?_) (fun z4 => ?_)
    · replace H := H.1 z4
      refine fx_iconst d_BY_byteAt_21 ?_
      exact fx_end (some (.int (zI 0))) ⟨⟨_, rfl, rfl⟩, d_BY_byteAt_22⟩ (Nat.le_refl _) (Nat.le_refl _) rfl H
    · replace H := H.2 z4
      refine fx_aload_n (i := 0) d_BY_byteAt_12 rfl rfl ?_
      refine fx_getR (q := 2) d_BY_byteAt_13 lk_BY_9 (at_1 (h := _) hS) rfl rfl ?_
      refine fx_iload_n (i := 1) d_BY_byteAt_16 rfl rfl ?_
      obtain ⟨hn5, H⟩ := H
      obtain ⟨hn6, H⟩ := H
      refine fx_iald d_BY_byteAt_17 (at_2 (h := _) hS) hn5 hn6 (by decide) ?_
      refine fx_goto (n := 22) d_BY_byteAt_18 ?_
      exact fx_end (some (.int (zI (h.2.2.1 2 (x.toNat))))) ⟨⟨_, rfl, rfl⟩, d_BY_byteAt_22⟩ (Nat.le_refl _) (Nat.le_refl _) rfl H

set_option maxRecDepth 100000 in
set_option maxHeartbeats 4000000 in
theorem e_BY_change {l : Launch} {Q : Option Value → fx_H → Prop} {h : fx_H}  {x : Int} {b : Int}  {a : Nat → Nat} {pp dd : Nat} (hS : h.1 = fx_S0 a pp dd) 
    (H : zR x ∧ ((x < 0 → Q none h) ∧ (¬ (x < 0) → zR (h.2.1 1 1) ∧ (((h.2.1 1 1) ≤ x → Q none h) ∧ (¬ ((h.2.1 1 1) ≤ x) → 0 ≤ x ∧ x < 2000 ∧ Q none (fx_uA h 2 (x.toNat) b)))))) :
    fx_Mt l M_BY_change (0, 0) [.ref 1, .int (zI x), .int (zI b)] h Q := by
  refine fx_entry (ls := [some (.ref 1), some (.int (zI x)), some (.int (zI b))]) (by decide) (Nat.le_of_ble_eq_true rfl) rfl ?_
  refine fx_iload_n (i := 1) d_BY_change_0 rfl rfl ?_
  obtain ⟨hz1, H⟩ := H
  refine fx_if_lt (t := 19) (n := 4) d_BY_change_1 hz1 (fun z2 => ?_) (fun z2 => ?_)
  · replace H := H.1 z2
    exact fx_end none ⟨rfl, d_BY_change_19⟩ (Nat.le_refl _) (Nat.le_refl _) rfl H
  · replace H := H.2 z2
    refine fx_iload_n (i := 1) d_BY_change_4 rfl rfl ?_
    refine fx_aload_n (i := 0) d_BY_change_5 rfl rfl ?_
    refine fx_getI d_BY_change_6 lk_BY_15 (at_1 (h := _) hS) rfl ?_
    obtain ⟨hz3, H⟩ := H
    refine fx_icmp_ge (t := 19) (n := 12) d_BY_change_9 hz1 hz3 (fun z4 => ?_) (fun z4 => ?_)
    · replace H := H.1 z4
      exact fx_end none ⟨rfl, d_BY_change_19⟩ (Nat.le_refl _) (Nat.le_refl _) rfl H
    · replace H := H.2 z4
      refine fx_aload_n (i := 0) d_BY_change_12 rfl rfl ?_
      refine fx_getR (q := 2) d_BY_change_13 lk_BY_9 (at_1 (h := _) hS) rfl rfl ?_
      refine fx_iload_n (i := 1) d_BY_change_16 rfl rfl ?_
      refine fx_iload_n (i := 2) d_BY_change_17 rfl rfl ?_
      obtain ⟨hn5, H⟩ := H
      obtain ⟨hn6, H⟩ := H
      refine fx_iast d_BY_change_18 (at_2 (h := _) hS) hn5 hn6 (by decide) ?_
      exact fx_end none ⟨rfl, d_BY_change_19⟩ (Nat.le_refl _) (Nat.le_refl _) rfl H

set_option maxRecDepth 100000 in
set_option maxHeartbeats 4000000 in
theorem e_BY_append {l : Launch} {Q : Option Value → fx_H → Prop} {h : fx_H}  {b : Int}  {a : Nat → Nat} {pp dd : Nat} (hS : h.1 = fx_S0 a pp dd) 
    (H : zR (h.2.1 1 1) ∧ ((2000 ≤ (h.2.1 1 1) → Q none h) ∧ (¬ (2000 ≤ (h.2.1 1 1)) → 0 ≤ (h.2.1 1 1) ∧ (h.2.1 1 1) < 2000 ∧ Q none (fx_uF (fx_uA h 2 ((h.2.1 1 1).toNat) b) 1 1 ((h.2.1 1 1) + 1))))) :
    fx_Mt l M_BY_append (0, 0) [.ref 1, .int (zI b)] h Q := by
  refine fx_entry (ls := [some (.ref 1), some (.int (zI b))]) (by decide) (Nat.le_of_ble_eq_true rfl) rfl ?_
  refine fx_aload_n (i := 0) d_BY_append_0 rfl rfl ?_
  refine fx_getI d_BY_append_1 lk_BY_15 (at_1 (h := _) hS) rfl ?_
  refine fx_sipush (v := 2000) d_BY_append_4 rfl ?_
  obtain ⟨hz1, H⟩ := H
  refine fx_icmp_ge (t := 30) (n := 10) d_BY_append_7 hz1 (show zR 2000 by decide) (fun z2 => ?_) (fun z2 => ?_)
  · replace H := H.1 z2
    exact fx_end none ⟨rfl, d_BY_append_30⟩ (Nat.le_refl _) (Nat.le_refl _) rfl H
  · replace H := H.2 z2
    refine fx_aload_n (i := 0) d_BY_append_10 rfl rfl ?_
    refine fx_getR (q := 2) d_BY_append_11 lk_BY_9 (at_1 (h := _) hS) rfl rfl ?_
    refine fx_aload_n (i := 0) d_BY_append_14 rfl rfl ?_
    refine fx_getI d_BY_append_15 lk_BY_15 (at_1 (h := _) hS) rfl ?_
    refine fx_iload_n (i := 1) d_BY_append_18 rfl rfl ?_
    obtain ⟨hn3, H⟩ := H
    obtain ⟨hn4, H⟩ := H
    refine fx_iast d_BY_append_19 (at_2 (h := _) hS) hn3 hn4 (by decide) ?_
    refine fx_aload_n (i := 0) d_BY_append_20 rfl rfl ?_
    refine fx_dup d_BY_append_21 rfl ?_
    refine fx_getI d_BY_append_22 lk_BY_15 (at_1 (h := _) hS) rfl ?_
    refine fx_iconst d_BY_append_25 ?_
    refine fx_iadd d_BY_append_26 ?_
    refine fx_putI d_BY_append_27 lk_BY_15 (at_1 (h := _) hS) rfl rfl rfl ?_
    exact fx_end none ⟨rfl, d_BY_append_30⟩ (Nat.le_refl _) (Nat.le_refl _) rfl H

set_option maxRecDepth 100000 in
set_option maxHeartbeats 4000000 in
theorem e_BY_keep {l : Launch} {Q : Option Value → fx_H → Prop} {h : fx_H}  {n : Int}  {a : Nat → Nat} {pp dd : Nat} (hS : h.1 = fx_S0 a pp dd) 
    (H : zR (h.2.1 1 1) ∧ zR n ∧ Q none (fx_uF h 1 1 (if n < (h.2.1 1 1) then n else h.2.1 1 1))) :
    fx_Mt l M_BY_keep (0, 0) [.ref 1, .int (zI n)] h Q := by
  refine fx_entry (ls := [some (.ref 1), some (.int (zI n))]) (by decide) (Nat.le_of_ble_eq_true rfl) rfl ?_
  refine fx_aload_n (i := 0) d_BY_keep_0 rfl rfl ?_
  refine fx_aload_n (i := 0) d_BY_keep_1 rfl rfl ?_
  refine fx_getI d_BY_keep_2 lk_BY_15 (at_1 (h := _) hS) rfl ?_
  refine fx_iload_n (i := 1) d_BY_keep_5 rfl rfl ?_
  obtain ⟨hz1, H⟩ := H
  obtain ⟨hz2, H⟩ := H
  refine fx_min d_BY_keep_6 mm_BY_19 mw_min_s mw_i mw_min_c ⟨by decide, by decide⟩ (Nat.le_of_ble_eq_true rfl) ⟨Nat.le_refl _, Nat.le_refl _⟩ hz1 hz2 ?_
  refine fx_putI d_BY_keep_9 lk_BY_15 (at_1 (h := _) hS) rfl rfl rfl ?_
  exact fx_end none ⟨rfl, d_BY_keep_12⟩ (Nat.le_refl _) (Nat.le_refl _) rfl H

set_option maxRecDepth 100000 in
set_option maxHeartbeats 4000000 in
theorem e_BY_shiftOf {l : Launch} {Q : Option Value → fx_H → Prop} {h : fx_H}  {x : Int} {n : Int}  {a : Nat → Nat} {pp dd : Nat} (hS : h.1 = fx_S0 a pp dd) 
    (H : zR (h.2.1 1 2) ∧ (((h.2.1 1 2) = 0 → Q (some (.int (zI (8 * x)))) h) ∧ (¬ ((h.2.1 1 2) = 0) → Q (some (.int (zI (8 * ((n - 1) - x))))) h))) :
    fx_Mt l M_BY_shiftOf (0, 0) [.ref 1, .int (zI x), .int (zI n)] h Q := by
  refine fx_entry (ls := [some (.ref 1), some (.int (zI x)), some (.int (zI n))]) (by decide) (Nat.le_of_ble_eq_true rfl) rfl ?_
  refine fx_bipush (v := 8) d_BY_shiftOf_0 rfl ?_
  refine fx_aload_n (i := 0) d_BY_shiftOf_2 rfl rfl ?_
  refine fx_getI d_BY_shiftOf_3 lk_BY_25 (at_1 (h := _) hS) rfl ?_
  obtain ⟨hz1, H⟩ := H
  refine fx_if_eq (t := 17) (n := 9) d_BY_shiftOf_6 hz1 (fun z2 => ?_) (fun z2 => ?_)
  · replace H := H.1 z2
    refine fx_iload_n (i := 1) d_BY_shiftOf_17 rfl rfl ?_
    refine fx_imul d_BY_shiftOf_18 ?_
    exact fx_end (some (.int (zI (8 * x)))) ⟨⟨_, rfl, rfl⟩, d_BY_shiftOf_19⟩ (Nat.le_refl _) (Nat.le_refl _) rfl H
  · replace H := H.2 z2
    refine fx_iload_n (i := 2) d_BY_shiftOf_9 rfl rfl ?_
    refine fx_iconst d_BY_shiftOf_10 ?_
    refine fx_isub d_BY_shiftOf_11 ?_
    refine fx_iload_n (i := 1) d_BY_shiftOf_12 rfl rfl ?_
    refine fx_isub d_BY_shiftOf_13 ?_
    refine fx_goto (n := 18) d_BY_shiftOf_14 ?_
    refine fx_imul d_BY_shiftOf_18 ?_
    exact fx_end (some (.int (zI (8 * ((n - 1) - x))))) ⟨⟨_, rfl, rfl⟩, d_BY_shiftOf_19⟩ (Nat.le_refl _) (Nat.le_refl _) rfl H

set_option maxRecDepth 100000 in
set_option maxHeartbeats 4000000 in
theorem e_BY_numberAt {l : Launch} {Q : Option Value → fx_H → Prop} {h : fx_H}  {q : Int} {n : Int}  {a : Nat → Nat} {pp dd : Nat} (hS : h.1 = fx_S0 a pp dd) 
    (H : (fx_V l M_BY_numberAt (0, 0) Q 0 0 5 [some (.ref 1), some (.int (zI q)), some (.int (zI n)), some (.long (zL 0)), none, some (.int (zI 0))] [] h)) :
    fx_Mt l M_BY_numberAt (0, 0) [.ref 1, .int (zI q), .int (zI n)] h Q := by
  refine fx_entry (ls := [some (.ref 1), some (.int (zI q)), some (.int (zI n)), none, none, none]) (by decide) (Nat.le_of_ble_eq_true rfl) rfl ?_
  refine fx_lconst (v := 0) d_BY_numberAt_0 rfl ?_
  refine fx_lstore_n (i := 3) (ls2 := [some (.ref 1), some (.int (zI q)), some (.int (zI n)), some (.long (zL 0)), none, none]) d_BY_numberAt_1 rfl (by decide) rfl ?_
  refine fx_iconst d_BY_numberAt_2 ?_
  refine fx_istore (ls2 := [some (.ref 1), some (.int (zI q)), some (.int (zI n)), some (.long (zL 0)), none, some (.int (zI 0))]) d_BY_numberAt_3 (by decide) rfl ?_
  exact H

set_option maxRecDepth 100000 in
set_option maxHeartbeats 4000000 in
theorem w_BY_numberAt_5 {l : Launch} {Q : Option Value → fx_H → Prop} {h : fx_H}  {x1 : Int} {x2 : Int} {x3 : Int} {x5 : Int}  {a : Nat → Nat} {pp dd : Nat} (hS : h.1 = fx_S0 a pp dd) 
    (H : zR x5 ∧ zR x2 ∧ ((x2 ≤ x5 → Q (some (.long (zL x3))) h) ∧ (¬ (x2 ≤ x5) → fx_Mt l M_BY_byteAt (0, 0) [.ref 1, .int (zI (x1 + x5))] h (fun v h4 => ∃ r6 : Int, v = some (.int (zI r6)) ∧ h4.1 = h.1 ∧ zR r6 ∧ fx_Mt l M_BY_shiftOf (0, 0) [.ref 1, .int (zI x5), .int (zI x2)] h4 (fun v h8 => ∃ r10 : Int, v = some (.int (zI r10)) ∧ h8.1 = h4.1 ∧ (0 ≤ r10 ∧ r10 < 64) ∧ 0 ≤ x3 ∧ x3 < 4611686018427387904 ∧ 0 ≤ (r6 * 2 ^ r10.toNat) ∧ (r6 * 2 ^ r10.toNat) < 4611686018427387904 ∧ (fx_V l M_BY_numberAt (0, 0) Q 0 0 5 [some (.ref 1), some (.int (zI x1)), some (.int (zI x2)), some (.long (zL (zor x3 (r6 * 2 ^ r10.toNat)))), none, some (.int (zI (x5 + 1)))] [] h8)))))) :
    fx_V l M_BY_numberAt (0, 0) Q 0 0 5 [some (.ref 1), some (.int (zI x1)), some (.int (zI x2)), some (.long (zL x3)), none, some (.int (zI x5))] [] h := by
  refine fx_iload d_BY_numberAt_5 rfl ?_
  refine fx_iload_n (i := 2) d_BY_numberAt_7 rfl rfl ?_
  obtain ⟨hz1, H⟩ := H
  obtain ⟨hz2, H⟩ := H
  refine fx_icmp_ge (t := 37) (n := 11) d_BY_numberAt_8 hz1 hz2 (fun z3 => ?_) (fun z3 => ?_)
  · replace H := H.1 z3
    refine fx_lload_n (i := 3) d_BY_numberAt_37 rfl rfl ?_
    exact fx_end (some (.long (zL x3))) ⟨rfl, d_BY_numberAt_38⟩ (Nat.le_refl _) (Nat.le_refl _) rfl H
  · replace H := H.2 z3
    refine fx_lload_n (i := 3) d_BY_numberAt_11 rfl rfl ?_
    refine fx_aload_n (i := 0) d_BY_numberAt_12 rfl rfl ?_
    refine fx_iload_n (i := 1) d_BY_numberAt_13 rfl rfl ?_
    refine fx_iload d_BY_numberAt_14 rfl ?_
    refine fx_iadd d_BY_numberAt_16 ?_
    refine fx_callV (M' := M_BY_byteAt) (B' := (0, 0)) (vs := [.int (zI (x1 + x5))]) (rest := [.long (zL x3)]) (c1 := 0) (s1 := 0) (n := 20) d_BY_numberAt_17 ca_BY_numberAt_29 (at_1 (h := _) hS) rfl rfl rfl ⟨by decide, by decide⟩ (Nat.le_of_ble_eq_true rfl) (Or.inl rfl) (fx_Mt.mono H fun v h4 hv => ?_)
    obtain ⟨r6, rfl, e5, H⟩ := hv
    have hS4 := e5.trans hS
    show fx_V l M_BY_numberAt (0, 0) Q 0 0 20 [some (.ref 1), some (.int (zI x1)), some (.int (zI x2)), some (.long (zL x3)), none, some (.int (zI x5))] [.int (zI r6), .long (zL x3)] h4
    obtain ⟨hz7, H⟩ := H
    refine fx_i2l d_BY_numberAt_20 hz7 ?_
    refine fx_aload_n (i := 0) d_BY_numberAt_21 rfl rfl ?_
    refine fx_iload d_BY_numberAt_22 rfl ?_
    refine fx_iload_n (i := 2) d_BY_numberAt_24 rfl rfl ?_
    refine fx_callV (M' := M_BY_shiftOf) (B' := (0, 0)) (vs := [.int (zI x5), .int (zI x2)]) (rest := [.long (zL r6), .long (zL x3)]) (c1 := 0) (s1 := 0) (n := 28) d_BY_numberAt_25 ca_BY_numberAt_33 (at_1 (h := _) hS4) rfl rfl rfl ⟨by decide, by decide⟩ (Nat.le_of_ble_eq_true rfl) (Or.inl rfl) (fx_Mt.mono H fun v h8 hv => ?_)
    obtain ⟨r10, rfl, e9, H⟩ := hv
    have hS8 := e9.trans hS4
    show fx_V l M_BY_numberAt (0, 0) Q 0 0 28 [some (.ref 1), some (.int (zI x1)), some (.int (zI x2)), some (.long (zL x3)), none, some (.int (zI x5))] [.int (zI r10), .long (zL r6), .long (zL x3)] h8
    obtain ⟨hn11, H⟩ := H
    have ez12 : ((r10.toNat : Nat) : Int) = r10 := Int.toNat_of_nonneg hn11.1
    refine fx_eqv (st2 := [(.int (zI ((r10.toNat : Nat) : Int))), .long (zL r6), .long (zL x3)]) (by rw [ez12]) ?_
    refine fx_lshl (j := r10.toNat) d_BY_numberAt_28 (by omega) ?_
    obtain ⟨hn13, H⟩ := H
    obtain ⟨hn14, H⟩ := H
    obtain ⟨hn15, H⟩ := H
    obtain ⟨hn16, H⟩ := H
    refine fx_lor d_BY_numberAt_29 hn13 hn14 hn15 hn16 ?_
    refine fx_lstore_n (i := 3) (ls2 := [some (.ref 1), some (.int (zI x1)), some (.int (zI x2)), some (.long (zL (zor x3 (r6 * 2 ^ r10.toNat)))), none, some (.int (zI x5))]) d_BY_numberAt_30 rfl (by decide) rfl ?_
    refine fx_iinc (v := x5 + 1) (ls2 := [some (.ref 1), some (.int (zI x1)), some (.int (zI x2)), some (.long (zL (zor x3 (r6 * 2 ^ r10.toNat)))), none, some (.int (zI (x5 + 1)))]) d_BY_numberAt_31 rfl rfl (by decide) rfl ?_
    refine fx_goto (n := 5) d_BY_numberAt_34 ?_
    exact H

set_option maxRecDepth 100000 in
set_option maxHeartbeats 4000000 in
theorem e_BY_changeNumber {l : Launch} {Q : Option Value → fx_H → Prop} {h : fx_H}  {q : Int} {n : Int} {u : Int}  {a : Nat → Nat} {pp dd : Nat} (hS : h.1 = fx_S0 a pp dd) 
    (H : (fx_V l M_BY_changeNumber (0, 0) Q 0 0 3 [some (.ref 1), some (.int (zI q)), some (.int (zI n)), some (.int (zI u)), some (.int (zI 0))] [] h)) :
    fx_Mt l M_BY_changeNumber (0, 0) [.ref 1, .int (zI q), .int (zI n), .int (zI u)] h Q := by
  refine fx_entry (ls := [some (.ref 1), some (.int (zI q)), some (.int (zI n)), some (.int (zI u)), none]) (by decide) (Nat.le_of_ble_eq_true rfl) rfl ?_
  refine fx_iconst d_BY_changeNumber_0 ?_
  refine fx_istore (ls2 := [some (.ref 1), some (.int (zI q)), some (.int (zI n)), some (.int (zI u)), some (.int (zI 0))]) d_BY_changeNumber_1 (by decide) rfl ?_
  exact H

set_option maxRecDepth 100000 in
set_option maxHeartbeats 4000000 in
theorem w_BY_changeNumber_3 {l : Launch} {Q : Option Value → fx_H → Prop} {h : fx_H}  {x1 : Int} {x2 : Int} {x3 : Int} {x4 : Int}  {a : Nat → Nat} {pp dd : Nat} (hS : h.1 = fx_S0 a pp dd) 
    (H : zR x4 ∧ zR x2 ∧ ((x2 ≤ x4 → Q none h) ∧ (¬ (x2 ≤ x4) → fx_Mt l M_BY_shiftOf (0, 0) [.ref 1, .int (zI x4), .int (zI x2)] h (fun v h4 => ∃ r6 : Int, v = some (.int (zI r6)) ∧ h4.1 = h.1 ∧ (0 ≤ r6 ∧ r6 < 32) ∧ zR x3 ∧ fx_Mt l M_BY_change (0, 0) [.ref 1, .int (zI (x1 + x4)), .int (zI ((x3 / 2 ^ r6.toNat) % 256))] h4 (fun v h10 => v = none ∧ h10.1 = h4.1 ∧ (fx_V l M_BY_changeNumber (0, 0) Q 0 0 3 [some (.ref 1), some (.int (zI x1)), some (.int (zI x2)), some (.int (zI x3)), some (.int (zI (x4 + 1)))] [] h10)))))) :
    fx_V l M_BY_changeNumber (0, 0) Q 0 0 3 [some (.ref 1), some (.int (zI x1)), some (.int (zI x2)), some (.int (zI x3)), some (.int (zI x4))] [] h := by
  refine fx_iload d_BY_changeNumber_3 rfl ?_
  refine fx_iload_n (i := 2) d_BY_changeNumber_5 rfl rfl ?_
  obtain ⟨hz1, H⟩ := H
  obtain ⟨hz2, H⟩ := H
  refine fx_icmp_ge (t := 36) (n := 9) d_BY_changeNumber_6 hz1 hz2 (fun z3 => ?_) (fun z3 => ?_)
  · replace H := H.1 z3
    exact fx_end none ⟨rfl, d_BY_changeNumber_36⟩ (Nat.le_refl _) (Nat.le_refl _) rfl H
  · replace H := H.2 z3
    refine fx_aload_n (i := 0) d_BY_changeNumber_9 rfl rfl ?_
    refine fx_iload_n (i := 1) d_BY_changeNumber_10 rfl rfl ?_
    refine fx_iload d_BY_changeNumber_11 rfl ?_
    refine fx_iadd d_BY_changeNumber_13 ?_
    refine fx_iload_n (i := 3) d_BY_changeNumber_14 rfl rfl ?_
    refine fx_aload_n (i := 0) d_BY_changeNumber_15 rfl rfl ?_
    refine fx_iload d_BY_changeNumber_16 rfl ?_
    refine fx_iload_n (i := 2) d_BY_changeNumber_18 rfl rfl ?_
    refine fx_callV (M' := M_BY_shiftOf) (B' := (0, 0)) (vs := [.int (zI x4), .int (zI x2)]) (rest := [.int (zI x3), .int (zI (x1 + x4)), .ref 1]) (c1 := 0) (s1 := 0) (n := 22) d_BY_changeNumber_19 ca_BY_changeNumber_33 (at_1 (h := _) hS) rfl rfl rfl ⟨by decide, by decide⟩ (Nat.le_of_ble_eq_true rfl) (Or.inl rfl) (fx_Mt.mono H fun v h4 hv => ?_)
    obtain ⟨r6, rfl, e5, H⟩ := hv
    have hS4 := e5.trans hS
    show fx_V l M_BY_changeNumber (0, 0) Q 0 0 22 [some (.ref 1), some (.int (zI x1)), some (.int (zI x2)), some (.int (zI x3)), some (.int (zI x4))] [.int (zI r6), .int (zI x3), .int (zI (x1 + x4)), .ref 1] h4
    obtain ⟨hn7, H⟩ := H
    have ez8 : ((r6.toNat : Nat) : Int) = r6 := Int.toNat_of_nonneg hn7.1
    refine fx_eqv (st2 := [(.int (zI ((r6.toNat : Nat) : Int))), .int (zI x3), .int (zI (x1 + x4)), .ref 1]) (by rw [ez8]) ?_
    obtain ⟨hz9, H⟩ := H
    refine fx_ishr (j := r6.toNat) d_BY_changeNumber_22 hz9 (by omega) ?_
    refine fx_sipush (v := 255) d_BY_changeNumber_23 rfl ?_
    refine fx_and255 d_BY_changeNumber_26 ?_
    refine fx_callV (M' := M_BY_change) (B' := (0, 0)) (vs := [.int (zI (x1 + x4)), .int (zI ((x3 / 2 ^ r6.toNat) % 256))]) (rest := []) (c1 := 0) (s1 := 0) (n := 30) d_BY_changeNumber_27 ca_BY_changeNumber_36 (at_1 (h := _) hS4) rfl rfl rfl ⟨by decide, by decide⟩ (Nat.le_of_ble_eq_true rfl) (Or.inl rfl) (fx_Mt.mono H fun v h10 hv => ?_)
    obtain ⟨rfl, e11, H⟩ := hv
    have hS10 := e11.trans hS4
    show fx_V l M_BY_changeNumber (0, 0) Q 0 0 30 [some (.ref 1), some (.int (zI x1)), some (.int (zI x2)), some (.int (zI x3)), some (.int (zI x4))] [] h10
    refine fx_iinc (v := x4 + 1) (ls2 := [some (.ref 1), some (.int (zI x1)), some (.int (zI x2)), some (.int (zI x3)), some (.int (zI (x4 + 1)))]) d_BY_changeNumber_30 rfl rfl (by decide) rfl ?_
    refine fx_goto (n := 3) d_BY_changeNumber_33 ?_
    exact H

set_option maxRecDepth 100000 in
set_option maxHeartbeats 4000000 in
theorem e_BY_appendNumber {l : Launch} {Q : Option Value → fx_H → Prop} {h : fx_H}  {n : Int} {u : Int}  {a : Nat → Nat} {pp dd : Nat} (hS : h.1 = fx_S0 a pp dd) 
    (H : (fx_V l M_BY_appendNumber (0, 0) Q 0 0 2 [some (.ref 1), some (.int (zI n)), some (.int (zI u)), some (.int (zI 0))] [] h)) :
    fx_Mt l M_BY_appendNumber (0, 0) [.ref 1, .int (zI n), .int (zI u)] h Q := by
  refine fx_entry (ls := [some (.ref 1), some (.int (zI n)), some (.int (zI u)), none]) (by decide) (Nat.le_of_ble_eq_true rfl) rfl ?_
  refine fx_iconst d_BY_appendNumber_0 ?_
  refine fx_istore_n (i := 3) (ls2 := [some (.ref 1), some (.int (zI n)), some (.int (zI u)), some (.int (zI 0))]) d_BY_appendNumber_1 rfl (by decide) rfl ?_
  exact H

set_option maxRecDepth 100000 in
set_option maxHeartbeats 4000000 in
theorem w_BY_appendNumber_2 {l : Launch} {Q : Option Value → fx_H → Prop} {h : fx_H}  {x1 : Int} {x2 : Int} {x3 : Int}  {a : Nat → Nat} {pp dd : Nat} (hS : h.1 = fx_S0 a pp dd) 
    (H : zR x3 ∧ zR x1 ∧ ((x1 ≤ x3 → Q none h) ∧ (¬ (x1 ≤ x3) → fx_Mt l M_BY_shiftOf (0, 0) [.ref 1, .int (zI x3), .int (zI x1)] h (fun v h4 => ∃ r6 : Int, v = some (.int (zI r6)) ∧ h4.1 = h.1 ∧ (0 ≤ r6 ∧ r6 < 32) ∧ zR x2 ∧ fx_Mt l M_BY_append (0, 0) [.ref 1, .int (zI ((x2 / 2 ^ r6.toNat) % 256))] h4 (fun v h10 => v = none ∧ h10.1 = h4.1 ∧ (fx_V l M_BY_appendNumber (0, 0) Q 0 0 2 [some (.ref 1), some (.int (zI x1)), some (.int (zI x2)), some (.int (zI (x3 + 1)))] [] h10)))))) :
    fx_V l M_BY_appendNumber (0, 0) Q 0 0 2 [some (.ref 1), some (.int (zI x1)), some (.int (zI x2)), some (.int (zI x3))] [] h := by
  refine fx_iload_n (i := 3) d_BY_appendNumber_2 rfl rfl ?_
  refine fx_iload_n (i := 1) d_BY_appendNumber_3 rfl rfl ?_
  obtain ⟨hz1, H⟩ := H
  obtain ⟨hz2, H⟩ := H
  refine fx_icmp_ge (t := 29) (n := 7) d_BY_appendNumber_4 hz1 hz2 (fun z3 => ?_) (fun z3 => ?_)
  · replace H := H.1 z3
    exact fx_end none ⟨rfl, d_BY_appendNumber_29⟩ (Nat.le_refl _) (Nat.le_refl _) rfl H
  · replace H := H.2 z3
    refine fx_aload_n (i := 0) d_BY_appendNumber_7 rfl rfl ?_
    refine fx_iload_n (i := 2) d_BY_appendNumber_8 rfl rfl ?_
    refine fx_aload_n (i := 0) d_BY_appendNumber_9 rfl rfl ?_
    refine fx_iload_n (i := 3) d_BY_appendNumber_10 rfl rfl ?_
    refine fx_iload_n (i := 1) d_BY_appendNumber_11 rfl rfl ?_
    refine fx_callV (M' := M_BY_shiftOf) (B' := (0, 0)) (vs := [.int (zI x3), .int (zI x1)]) (rest := [.int (zI x2), .ref 1]) (c1 := 0) (s1 := 0) (n := 15) d_BY_appendNumber_12 ca_BY_appendNumber_33 (at_1 (h := _) hS) rfl rfl rfl ⟨by decide, by decide⟩ (Nat.le_of_ble_eq_true rfl) (Or.inl rfl) (fx_Mt.mono H fun v h4 hv => ?_)
    obtain ⟨r6, rfl, e5, H⟩ := hv
    have hS4 := e5.trans hS
    show fx_V l M_BY_appendNumber (0, 0) Q 0 0 15 [some (.ref 1), some (.int (zI x1)), some (.int (zI x2)), some (.int (zI x3))] [.int (zI r6), .int (zI x2), .ref 1] h4
    obtain ⟨hn7, H⟩ := H
    have ez8 : ((r6.toNat : Nat) : Int) = r6 := Int.toNat_of_nonneg hn7.1
    refine fx_eqv (st2 := [(.int (zI ((r6.toNat : Nat) : Int))), .int (zI x2), .ref 1]) (by rw [ez8]) ?_
    obtain ⟨hz9, H⟩ := H
    refine fx_ishr (j := r6.toNat) d_BY_appendNumber_15 hz9 (by omega) ?_
    refine fx_sipush (v := 255) d_BY_appendNumber_16 rfl ?_
    refine fx_and255 d_BY_appendNumber_19 ?_
    refine fx_callV (M' := M_BY_append) (B' := (0, 0)) (vs := [.int (zI ((x2 / 2 ^ r6.toNat) % 256))]) (rest := []) (c1 := 0) (s1 := 0) (n := 23) d_BY_appendNumber_20 ca_BY_appendNumber_40 (at_1 (h := _) hS4) rfl rfl rfl ⟨by decide, by decide⟩ (Nat.le_of_ble_eq_true rfl) (Or.inl rfl) (fx_Mt.mono H fun v h10 hv => ?_)
    obtain ⟨rfl, e11, H⟩ := hv
    have hS10 := e11.trans hS4
    show fx_V l M_BY_appendNumber (0, 0) Q 0 0 23 [some (.ref 1), some (.int (zI x1)), some (.int (zI x2)), some (.int (zI x3))] [] h10
    refine fx_iinc (v := x3 + 1) (ls2 := [some (.ref 1), some (.int (zI x1)), some (.int (zI x2)), some (.int (zI (x3 + 1)))]) d_BY_appendNumber_23 rfl rfl (by decide) rfl ?_
    refine fx_goto (n := 2) d_BY_appendNumber_26 ?_
    exact H

set_option maxRecDepth 100000 in
set_option maxHeartbeats 4000000 in
theorem e_BY_appendBits {l : Launch} {Q : Option Value → fx_H → Prop} {h : fx_H}  {u : Int} {n : Int}  {a : Nat → Nat} {pp dd : Nat} (hS : h.1 = fx_S0 a pp dd) 
    (H : (fx_V l M_BY_appendBits (0, 0) Q 0 0 4 [some (.ref 1), some (.int (zI u)), none, some (.int (zI (n - 1)))] [] h)) :
    fx_Mt l M_BY_appendBits (0, 0) [.ref 1, .int (zI u), .int (zI n)] h Q := by
  refine fx_entry (ls := [some (.ref 1), some (.int (zI u)), some (.int (zI n)), none]) (by decide) (Nat.le_of_ble_eq_true rfl) rfl ?_
  refine fx_iload_n (i := 2) d_BY_appendBits_0 rfl rfl ?_
  refine fx_iconst d_BY_appendBits_1 ?_
  refine fx_isub d_BY_appendBits_2 ?_
  refine fx_istore_n (i := 3) (ls2 := [some (.ref 1), some (.int (zI u)), some (.int (zI n)), some (.int (zI (n - 1)))]) d_BY_appendBits_3 rfl (by decide) rfl ?_
  exact fx_fewer [some (.ref 1), some (.int (zI u)), none, some (.int (zI (n - 1)))] ⟨rfl, rfl, rfl, trivial⟩ H

set_option maxRecDepth 100000 in
set_option maxHeartbeats 4000000 in
theorem w_BY_appendBits_4 {l : Launch} {Q : Option Value → fx_H → Prop} {h : fx_H}  {x1 : Int} {x3 : Int}  {a : Nat → Nat} {pp dd : Nat} (hS : h.1 = fx_S0 a pp dd) 
    (H : zR x3 ∧ ((x3 < 0 → Q none h) ∧ (¬ (x3 < 0) → zR (h.2.1 1 3) ∧ ((¬ (h.2.1 1 3) = 0 → fx_Mt l M_BY_byteAt (0, 0) [.ref 1, .int (zI ((h.2.1 1 1) - 1))] (fx_uF h 1 3 ((h.2.1 1 3) - 1)) (fun v h5 => ∃ r7 : Int, v = some (.int (zI r7)) ∧ h5.1 = (fx_uF h 1 3 ((h.2.1 1 3) - 1)).1 ∧ (0 ≤ x3 ∧ x3 < 32) ∧ zR x1 ∧ (0 ≤ (h5.2.1 1 3) ∧ (h5.2.1 1 3) < 32) ∧ 0 ≤ r7 ∧ r7 < 2147483648 ∧ 0 ≤ (((x1 / 2 ^ x3.toNat) % 2) * 2 ^ (h5.2.1 1 3).toNat) ∧ (((x1 / 2 ^ x3.toNat) % 2) * 2 ^ (h5.2.1 1 3).toNat) < 2147483648 ∧ fx_Mt l M_BY_change (0, 0) [.ref 1, .int (zI ((h.2.1 1 1) - 1)), .int (zI (zor r7 (((x1 / 2 ^ x3.toNat) % 2) * 2 ^ (h5.2.1 1 3).toNat)))] h5 (fun v h17 => v = none ∧ h17.1 = h5.1 ∧ (fx_V l M_BY_appendBits (0, 0) Q 0 0 4 [some (.ref 1), some (.int (zI x1)), none, some (.int (zI (x3 + (-1))))] [] h17)))) ∧ ((h.2.1 1 3) = 0 → fx_Mt l M_BY_append (0, 0) [.ref 1, .int (zI 0)] h (fun v h19 => v = none ∧ h19.1 = h.1 ∧ fx_Mt l M_BY_byteAt (0, 0) [.ref 1, .int (zI ((h19.2.1 1 1) - 1))] (fx_uF (fx_uF h19 1 3 8) 1 3 7) (fun v h21 => ∃ r23 : Int, v = some (.int (zI r23)) ∧ h21.1 = (fx_uF (fx_uF h19 1 3 8) 1 3 7).1 ∧ (0 ≤ x3 ∧ x3 < 32) ∧ zR x1 ∧ (0 ≤ (h21.2.1 1 3) ∧ (h21.2.1 1 3) < 32) ∧ 0 ≤ r23 ∧ r23 < 2147483648 ∧ 0 ≤ (((x1 / 2 ^ x3.toNat) % 2) * 2 ^ (h21.2.1 1 3).toNat) ∧ (((x1 / 2 ^ x3.toNat) % 2) * 2 ^ (h21.2.1 1 3).toNat) < 2147483648 ∧ fx_Mt l M_BY_change (0, 0) [.ref 1, .int (zI ((h19.2.1 1 1) - 1)), .int (zI (zor r23 (((x1 / 2 ^ x3.toNat) % 2) * 2 ^ (h21.2.1 1 3).toNat)))] h21 (fun v h33 => v = none ∧ h33.1 = h21.1 ∧ (fx_V l M_BY_appendBits (0, 0) Q 0 0 4 [some (.ref 1), some (.int (zI x1)), none, some (.int (zI (x3 + (-1))))] [] h33))))))))) :
    fx_V l M_BY_appendBits (0, 0) Q 0 0 4 [some (.ref 1), some (.int (zI x1)), none, some (.int (zI x3))] [] h := by
  refine fx_iload_n (i := 3) d_BY_appendBits_4 rfl rfl ?_
  obtain ⟨hz1, H⟩ := H
  refine fx_if_lt (t := 73) (n := 8) d_BY_appendBits_5 hz1 (fun z2 => ?_) (fun z2 => ?_)
  · replace H := H.1 z2
    exact fx_end none ⟨rfl, d_BY_appendBits_73⟩ (Nat.le_refl _) (Nat.le_refl _) rfl H
  · replace H := H.2 z2
    refine fx_aload_n (i := 0) d_BY_appendBits_8 rfl rfl ?_
    refine fx_getI d_BY_appendBits_9 lk_BY_44 (at_1 (h := _) hS) rfl ?_
    obtain ⟨hz3, H⟩ := H
    refine fx_if_ne (t := 26) (n := 15) d_BY_appendBits_12 hz3 (fun z4 => ?_) (fun z4 => ?_)
    · replace H := H.1 z4
      refine fx_aload_n (i := 0) d_BY_appendBits_26 rfl rfl ?_
      refine fx_dup d_BY_appendBits_27 rfl ?_
      refine fx_getI d_BY_appendBits_28 lk_BY_44 (at_1 (h := _) hS) rfl ?_
      refine fx_iconst d_BY_appendBits_31 ?_
      refine fx_isub d_BY_appendBits_32 ?_
      refine fx_putI d_BY_appendBits_33 lk_BY_44 (at_1 (h := _) hS) rfl rfl rfl ?_
      refine fx_aload_n (i := 0) d_BY_appendBits_36 rfl rfl ?_
      refine fx_aload_n (i := 0) d_BY_appendBits_37 rfl rfl ?_
      refine fx_getI d_BY_appendBits_38 lk_BY_15 (at_1 (h := _) hS) rfl ?_
      refine fx_iconst d_BY_appendBits_41 ?_
      refine fx_isub d_BY_appendBits_42 ?_
      refine fx_aload_n (i := 0) d_BY_appendBits_43 rfl rfl ?_
      refine fx_aload_n (i := 0) d_BY_appendBits_44 rfl rfl ?_
      refine fx_getI d_BY_appendBits_45 lk_BY_15 (at_1 (h := _) hS) rfl ?_
      refine fx_iconst d_BY_appendBits_48 ?_
      refine fx_isub d_BY_appendBits_49 ?_
      refine fx_callV (M' := M_BY_byteAt) (B' := (0, 0)) (vs := [.int (zI ((h.2.1 1 1) - 1))]) (rest := [.int (zI ((h.2.1 1 1) - 1)), .ref 1]) (c1 := 0) (s1 := 0) (n := 53) d_BY_appendBits_50 ca_BY_appendBits_29 (at_1 (h := _) hS) rfl rfl rfl ⟨by decide, by decide⟩ (Nat.le_of_ble_eq_true rfl) (Or.inl rfl) (fx_Mt.mono H fun v h5 hv => ?_)
      obtain ⟨r7, rfl, e6, H⟩ := hv
      have hS5 := e6.trans hS
      show fx_V l M_BY_appendBits (0, 0) Q 0 0 53 [some (.ref 1), some (.int (zI x1)), none, some (.int (zI x3))] [.int (zI r7), .int (zI ((h.2.1 1 1) - 1)), .ref 1] h5
      refine fx_iload_n (i := 1) d_BY_appendBits_53 rfl rfl ?_
      refine fx_iload_n (i := 3) d_BY_appendBits_54 rfl rfl ?_
      obtain ⟨hn8, H⟩ := H
      have ez9 : ((x3.toNat : Nat) : Int) = x3 := Int.toNat_of_nonneg hn8.1
      refine fx_eqv (st2 := [(.int (zI ((x3.toNat : Nat) : Int))), .int (zI x1), .int (zI r7), .int (zI ((h.2.1 1 1) - 1)), .ref 1]) (by rw [ez9]) ?_
      obtain ⟨hz10, H⟩ := H
      refine fx_ishr (j := x3.toNat) d_BY_appendBits_55 hz10 (by omega) ?_
      refine fx_iconst d_BY_appendBits_56 ?_
      refine fx_and1 d_BY_appendBits_57 ?_
      refine fx_aload_n (i := 0) d_BY_appendBits_58 rfl rfl ?_
      refine fx_getI d_BY_appendBits_59 lk_BY_44 (at_1 (h := _) hS5) rfl ?_
      obtain ⟨hn11, H⟩ := H
      have ez12 : (((h5.2.1 1 3).toNat : Nat) : Int) = h5.2.1 1 3 := Int.toNat_of_nonneg hn11.1
      refine fx_eqv (st2 := [(.int (zI (((h5.2.1 1 3).toNat : Nat) : Int))), .int (zI ((x1 / 2 ^ x3.toNat) % 2)), .int (zI r7), .int (zI ((h.2.1 1 1) - 1)), .ref 1]) (by rw [ez12]) ?_
      refine fx_ishl (j := (h5.2.1 1 3).toNat) d_BY_appendBits_62 (by omega) ?_
      obtain ⟨hn13, H⟩ := H
      obtain ⟨hn14, H⟩ := H
      obtain ⟨hn15, H⟩ := H
      obtain ⟨hn16, H⟩ := H
      refine fx_ior d_BY_appendBits_63 hn13 hn14 hn15 hn16 ?_
      refine fx_callV (M' := M_BY_change) (B' := (0, 0)) (vs := [.int (zI ((h.2.1 1 1) - 1)), .int (zI (zor r7 (((x1 / 2 ^ x3.toNat) % 2) * 2 ^ (h5.2.1 1 3).toNat)))]) (rest := []) (c1 := 0) (s1 := 0) (n := 67) d_BY_appendBits_64 ca_BY_appendBits_36 (at_1 (h := _) hS5) rfl rfl rfl ⟨by decide, by decide⟩ (Nat.le_of_ble_eq_true rfl) (Or.inl rfl) (fx_Mt.mono H fun v h17 hv => ?_)
      obtain ⟨rfl, e18, H⟩ := hv
      have hS17 := e18.trans hS5
      show fx_V l M_BY_appendBits (0, 0) Q 0 0 67 [some (.ref 1), some (.int (zI x1)), none, some (.int (zI x3))] [] h17
      refine fx_iinc (v := x3 + (-1)) (ls2 := [some (.ref 1), some (.int (zI x1)), none, some (.int (zI (x3 + (-1))))]) d_BY_appendBits_67 rfl rfl (by decide) rfl ?_
      refine fx_goto (n := 4) d_BY_appendBits_70 ?_
      exact H
    · replace H := H.2 z4
      refine fx_aload_n (i := 0) d_BY_appendBits_15 rfl rfl ?_
      refine fx_iconst d_BY_appendBits_16 ?_
      refine fx_callV (M' := M_BY_append) (B' := (0, 0)) (vs := [.int (zI 0)]) (rest := []) (c1 := 0) (s1 := 0) (n := 20) d_BY_appendBits_17 ca_BY_appendBits_40 (at_1 (h := _) hS) rfl rfl rfl ⟨by decide, by decide⟩ (Nat.le_of_ble_eq_true rfl) (Or.inl rfl) (fx_Mt.mono H fun v h19 hv => ?_)
      obtain ⟨rfl, e20, H⟩ := hv
      have hS19 := e20.trans hS
      show fx_V l M_BY_appendBits (0, 0) Q 0 0 20 [some (.ref 1), some (.int (zI x1)), none, some (.int (zI x3))] [] h19
      refine fx_aload_n (i := 0) d_BY_appendBits_20 rfl rfl ?_
      refine fx_bipush (v := 8) d_BY_appendBits_21 rfl ?_
      refine fx_putI d_BY_appendBits_23 lk_BY_44 (at_1 (h := _) hS19) rfl rfl rfl ?_
      refine fx_aload_n (i := 0) d_BY_appendBits_26 rfl rfl ?_
      refine fx_dup d_BY_appendBits_27 rfl ?_
      refine fx_getI d_BY_appendBits_28 lk_BY_44 (at_1 (h := _) hS19) rfl ?_
      refine fx_iconst d_BY_appendBits_31 ?_
      refine fx_isub d_BY_appendBits_32 ?_
      refine fx_putI d_BY_appendBits_33 lk_BY_44 (at_1 (h := _) hS19) rfl rfl rfl ?_
      refine fx_aload_n (i := 0) d_BY_appendBits_36 rfl rfl ?_
      refine fx_aload_n (i := 0) d_BY_appendBits_37 rfl rfl ?_
      refine fx_getI d_BY_appendBits_38 lk_BY_15 (at_1 (h := _) hS19) rfl ?_
      refine fx_iconst d_BY_appendBits_41 ?_
      refine fx_isub d_BY_appendBits_42 ?_
      refine fx_aload_n (i := 0) d_BY_appendBits_43 rfl rfl ?_
      refine fx_aload_n (i := 0) d_BY_appendBits_44 rfl rfl ?_
      refine fx_getI d_BY_appendBits_45 lk_BY_15 (at_1 (h := _) hS19) rfl ?_
      refine fx_iconst d_BY_appendBits_48 ?_
      refine fx_isub d_BY_appendBits_49 ?_
      refine fx_callV (M' := M_BY_byteAt) (B' := (0, 0)) (vs := [.int (zI ((h19.2.1 1 1) - 1))]) (rest := [.int (zI ((h19.2.1 1 1) - 1)), .ref 1]) (c1 := 0) (s1 := 0) (n := 53) d_BY_appendBits_50 ca_BY_appendBits_29 (at_1 (h := _) hS19) rfl rfl rfl ⟨by decide, by decide⟩ (Nat.le_of_ble_eq_true rfl) (Or.inl rfl) (fx_Mt.mono H fun v h21 hv => ?_)
      obtain ⟨r23, rfl, e22, H⟩ := hv
      have hS21 := e22.trans hS19
      show fx_V l M_BY_appendBits (0, 0) Q 0 0 53 [some (.ref 1), some (.int (zI x1)), none, some (.int (zI x3))] [.int (zI r23), .int (zI ((h19.2.1 1 1) - 1)), .ref 1] h21
      refine fx_iload_n (i := 1) d_BY_appendBits_53 rfl rfl ?_
      refine fx_iload_n (i := 3) d_BY_appendBits_54 rfl rfl ?_
      obtain ⟨hn24, H⟩ := H
      have ez25 : ((x3.toNat : Nat) : Int) = x3 := Int.toNat_of_nonneg hn24.1
      refine fx_eqv (st2 := [(.int (zI ((x3.toNat : Nat) : Int))), .int (zI x1), .int (zI r23), .int (zI ((h19.2.1 1 1) - 1)), .ref 1]) (by rw [ez25]) ?_
      obtain ⟨hz26, H⟩ := H
      refine fx_ishr (j := x3.toNat) d_BY_appendBits_55 hz26 (by omega) ?_
      refine fx_iconst d_BY_appendBits_56 ?_
      refine fx_and1 d_BY_appendBits_57 ?_
      refine fx_aload_n (i := 0) d_BY_appendBits_58 rfl rfl ?_
      refine fx_getI d_BY_appendBits_59 lk_BY_44 (at_1 (h := _) hS21) rfl ?_
      obtain ⟨hn27, H⟩ := H
      have ez28 : (((h21.2.1 1 3).toNat : Nat) : Int) = h21.2.1 1 3 := Int.toNat_of_nonneg hn27.1
      refine fx_eqv (st2 := [(.int (zI (((h21.2.1 1 3).toNat : Nat) : Int))), .int (zI ((x1 / 2 ^ x3.toNat) % 2)), .int (zI r23), .int (zI ((h19.2.1 1 1) - 1)), .ref 1]) (by rw [ez28]) ?_
      refine fx_ishl (j := (h21.2.1 1 3).toNat) d_BY_appendBits_62 (by omega) ?_
      obtain ⟨hn29, H⟩ := H
      obtain ⟨hn30, H⟩ := H
      obtain ⟨hn31, H⟩ := H
      obtain ⟨hn32, H⟩ := H
      refine fx_ior d_BY_appendBits_63 hn29 hn30 hn31 hn32 ?_
      refine fx_callV (M' := M_BY_change) (B' := (0, 0)) (vs := [.int (zI ((h19.2.1 1 1) - 1)), .int (zI (zor r23 (((x1 / 2 ^ x3.toNat) % 2) * 2 ^ (h21.2.1 1 3).toNat)))]) (rest := []) (c1 := 0) (s1 := 0) (n := 67) d_BY_appendBits_64 ca_BY_appendBits_36 (at_1 (h := _) hS21) rfl rfl rfl ⟨by decide, by decide⟩ (Nat.le_of_ble_eq_true rfl) (Or.inl rfl) (fx_Mt.mono H fun v h33 hv => ?_)
      obtain ⟨rfl, e34, H⟩ := hv
      have hS33 := e34.trans hS21
      show fx_V l M_BY_appendBits (0, 0) Q 0 0 67 [some (.ref 1), some (.int (zI x1)), none, some (.int (zI x3))] [] h33
      refine fx_iinc (v := x3 + (-1)) (ls2 := [some (.ref 1), some (.int (zI x1)), none, some (.int (zI (x3 + (-1))))]) d_BY_appendBits_67 rfl rfl (by decide) rfl ?_
      refine fx_goto (n := 4) d_BY_appendBits_70 ?_
      exact H

set_option maxRecDepth 100000 in
set_option maxHeartbeats 4000000 in
theorem e_BY_appendCode {l : Launch} {Q : Option Value → fx_H → Prop} {h : fx_H}  {u : Int}  {a : Nat → Nat} {pp dd : Nat} (hS : h.1 = fx_S0 a pp dd) 
    (H : fx_Mt l M_FP_lengthOf (0, 0) [.int (zI u)] h (fun v h1 => ∃ r3 : Int, v = some (.int (zI r3)) ∧ h1.1 = h.1 ∧ fx_Mt l M_BY_appendBits (0, 0) [.ref 1, .int (zI u), .int (zI r3)] h1 (fun v h4 => v = none ∧ h4.1 = h1.1 ∧ Q none h4))) :
    fx_Mt l M_BY_appendCode (0, 0) [.ref 1, .int (zI u)] h Q := by
  refine fx_entry (ls := [some (.ref 1), some (.int (zI u))]) (by decide) (Nat.le_of_ble_eq_true rfl) rfl ?_
  refine fx_aload_n (i := 0) d_BY_appendCode_0 rfl rfl ?_
  refine fx_iload_n (i := 1) d_BY_appendCode_1 rfl rfl ?_
  refine fx_iload_n (i := 1) d_BY_appendCode_2 rfl rfl ?_
  refine fx_callS (M' := M_FP_lengthOf) (B' := (0, 0)) (vs := [.int (zI u)]) (rest := [.int (zI u), .ref 1]) (c1 := 0) (s1 := 0) (n := 6) d_BY_appendCode_3 ca_BY_appendCode_47 rfl rfl ⟨by decide, by decide⟩ (Nat.le_of_ble_eq_true rfl) (Or.inl rfl) (fx_Mt.mono H fun v h1 hv => ?_)
  obtain ⟨r3, rfl, e2, H⟩ := hv
  have hS1 := e2.trans hS
  show fx_V l M_BY_appendCode (0, 0) Q 0 0 6 [some (.ref 1), some (.int (zI u))] [.int (zI r3), .int (zI u), .ref 1] h1
  refine fx_callV (M' := M_BY_appendBits) (B' := (0, 0)) (vs := [.int (zI u), .int (zI r3)]) (rest := []) (c1 := 0) (s1 := 0) (n := 9) d_BY_appendCode_6 ca_BY_appendCode_50 (at_1 (h := _) hS1) rfl rfl rfl ⟨by decide, by decide⟩ (Nat.le_of_ble_eq_true rfl) (Or.inl rfl) (fx_Mt.mono H fun v h4 hv => ?_)
  obtain ⟨rfl, e5, H⟩ := hv
  have hS4 := e5.trans hS1
  show fx_V l M_BY_appendCode (0, 0) Q 0 0 9 [some (.ref 1), some (.int (zI u))] [] h4
  exact fx_end none ⟨rfl, d_BY_appendCode_9⟩ (Nat.le_refl _) (Nat.le_refl _) rfl H

set_option maxRecDepth 100000 in
set_option maxHeartbeats 4000000 in
theorem e_BY_endBits {l : Launch} {Q : Option Value → fx_H → Prop} {h : fx_H}    {a : Nat → Nat} {pp dd : Nat} (hS : h.1 = fx_S0 a pp dd) 
    (H : Q none (fx_uF h 1 3 0)) :
    fx_Mt l M_BY_endBits (0, 0) [.ref 1] h Q := by
  refine fx_entry (ls := [some (.ref 1)]) (by decide) (Nat.le_of_ble_eq_true rfl) rfl ?_
  refine fx_aload_n (i := 0) d_BY_endBits_0 rfl rfl ?_
  refine fx_iconst d_BY_endBits_1 ?_
  refine fx_putI d_BY_endBits_2 lk_BY_44 (at_1 (h := _) hS) rfl rfl rfl ?_
  exact fx_end none ⟨rfl, d_BY_endBits_5⟩ (Nat.le_refl _) (Nat.le_refl _) rfl H

set_option maxRecDepth 100000 in
set_option maxHeartbeats 4000000 in
theorem e_BY_start {l : Launch} {Q : Option Value → fx_H → Prop} {h : fx_H}  {b : Int}  {a : Nat → Nat} {pp dd : Nat} (hS : h.1 = fx_S0 a pp dd) 
    (H : (b = 0 ∨ b = 1) ∧ zR b ∧ ((b = 0 → fx_Mt l M_BY_append (0, 0) [.ref 1, .int (zI 73)] (fx_uF (fx_uF (fx_uF h 1 1 0) 1 3 0) 1 2 b) (fun v h4 => v = none ∧ h4.1 = (fx_uF (fx_uF (fx_uF h 1 1 0) 1 3 0) 1 2 b).1 ∧ zR (h4.2.1 1 2) ∧ (((h4.2.1 1 2) = 0 → fx_Mt l M_BY_append (0, 0) [.ref 1, .int (zI 73)] h4 (fun v h8 => v = none ∧ h8.1 = h4.1 ∧ fx_Mt l M_BY_appendNumber (0, 0) [.ref 1, .int (zI 2), .int (zI 42)] h8 (fun v h10 => v = none ∧ h10.1 = h8.1 ∧ fx_Mt l M_BY_appendNumber (0, 0) [.ref 1, .int (zI 4), .int (zI 0)] h10 (fun v h12 => v = none ∧ h12.1 = h10.1 ∧ Q none h12)))) ∧ (¬ ((h4.2.1 1 2) = 0) → fx_Mt l M_BY_append (0, 0) [.ref 1, .int (zI 77)] h4 (fun v h14 => v = none ∧ h14.1 = h4.1 ∧ fx_Mt l M_BY_appendNumber (0, 0) [.ref 1, .int (zI 2), .int (zI 42)] h14 (fun v h16 => v = none ∧ h16.1 = h14.1 ∧ fx_Mt l M_BY_appendNumber (0, 0) [.ref 1, .int (zI 4), .int (zI 0)] h16 (fun v h18 => v = none ∧ h18.1 = h16.1 ∧ Q none h18))))))) ∧ (¬ (b = 0) → fx_Mt l M_BY_append (0, 0) [.ref 1, .int (zI 77)] (fx_uF (fx_uF (fx_uF h 1 1 0) 1 3 0) 1 2 b) (fun v h20 => v = none ∧ h20.1 = (fx_uF (fx_uF (fx_uF h 1 1 0) 1 3 0) 1 2 b).1 ∧ zR (h20.2.1 1 2) ∧ (((h20.2.1 1 2) = 0 → fx_Mt l M_BY_append (0, 0) [.ref 1, .int (zI 73)] h20 (fun v h24 => v = none ∧ h24.1 = h20.1 ∧ fx_Mt l M_BY_appendNumber (0, 0) [.ref 1, .int (zI 2), .int (zI 42)] h24 (fun v h26 => v = none ∧ h26.1 = h24.1 ∧ fx_Mt l M_BY_appendNumber (0, 0) [.ref 1, .int (zI 4), .int (zI 0)] h26 (fun v h28 => v = none ∧ h28.1 = h26.1 ∧ Q none h28)))) ∧ (¬ ((h20.2.1 1 2) = 0) → fx_Mt l M_BY_append (0, 0) [.ref 1, .int (zI 77)] h20 (fun v h30 => v = none ∧ h30.1 = h20.1 ∧ fx_Mt l M_BY_appendNumber (0, 0) [.ref 1, .int (zI 2), .int (zI 42)] h30 (fun v h32 => v = none ∧ h32.1 = h30.1 ∧ fx_Mt l M_BY_appendNumber (0, 0) [.ref 1, .int (zI 4), .int (zI 0)] h32 (fun v h34 => v = none ∧ h34.1 = h32.1 ∧ Q none h34))))))))) :
    fx_Mt l M_BY_start (0, 0) [.ref 1, .int (zI b)] h Q := by
  refine fx_entry (ls := [some (.ref 1), some (.int (zI b))]) (by decide) (Nat.le_of_ble_eq_true rfl) rfl ?_
  refine fx_aload_n (i := 0) d_BY_start_0 rfl rfl ?_
  refine fx_iconst d_BY_start_1 ?_
  refine fx_putI d_BY_start_2 lk_BY_15 (at_1 (h := _) hS) rfl rfl rfl ?_
  refine fx_aload_n (i := 0) d_BY_start_5 rfl rfl ?_
  refine fx_iconst d_BY_start_6 ?_
  refine fx_putI d_BY_start_7 lk_BY_44 (at_1 (h := _) hS) rfl rfl rfl ?_
  refine fx_aload_n (i := 0) d_BY_start_10 rfl rfl ?_
  refine fx_iload_n (i := 1) d_BY_start_11 rfl rfl ?_
  obtain ⟨hn1, H⟩ := H
  refine fx_putI d_BY_start_12 lk_BY_25 (at_1 (h := _) hS) rfl (fx_nb hn1) (fx_fb hn1) ?_
  refine fx_aload_n (i := 0) d_BY_start_15 rfl rfl ?_
  refine fx_aload_n (i := 0) d_BY_start_16 rfl rfl ?_
  refine fx_getI d_BY_start_17 lk_BY_25 (at_1 (h := _) hS) rfl ?_
  obtain ⟨hz2, H⟩ := H
  refine fx_if_eq (t := 28) (n := 23) d_BY_start_20 hz2 (fun z3 => ?_) (fun z3 => ?_)
  · replace H := H.1 z3
    refine fx_bipush (v := 73) d_BY_start_28 rfl ?_
    refine fx_callV (M' := M_BY_append) (B' := (0, 0)) (vs := [.int (zI 73)]) (rest := []) (c1 := 0) (s1 := 0) (n := 33) d_BY_start_30 ca_BY_start_40 (at_1 (h := _) hS) rfl rfl rfl ⟨by decide, by decide⟩ (Nat.le_of_ble_eq_true rfl) (Or.inl rfl) (fx_Mt.mono H fun v h4 hv => ?_)
    obtain ⟨rfl, e5, H⟩ := hv
    have hS4 := e5.trans hS
    show fx_V l M_BY_start (0, 0) Q 0 0 33 [some (.ref 1), some (.int (zI b))] [] h4
    refine fx_aload_n (i := 0) d_BY_start_33 rfl rfl ?_
    refine fx_aload_n (i := 0) d_BY_start_34 rfl rfl ?_
    refine fx_getI d_BY_start_35 lk_BY_25 (at_1 (h := _) hS4) rfl ?_
    obtain ⟨hz6, H⟩ := H
    refine fx_if_eq (t := 46) (n := 41) d_BY_start_38 hz6 (fun z7 => ?_) (fun z7 => ?_)
    · replace H := H.1 z7
      refine fx_bipush (v := 73) d_BY_start_46 rfl ?_
      refine fx_callV (M' := M_BY_append) (B' := (0, 0)) (vs := [.int (zI 73)]) (rest := []) (c1 := 0) (s1 := 0) (n := 51) d_BY_start_48 ca_BY_start_40 (at_1 (h := _) hS4) rfl rfl rfl ⟨by decide, by decide⟩ (Nat.le_of_ble_eq_true rfl) (Or.inl rfl) (fx_Mt.mono H fun v h8 hv => ?_)
      obtain ⟨rfl, e9, H⟩ := hv
      have hS8 := e9.trans hS4
      show fx_V l M_BY_start (0, 0) Q 0 0 51 [some (.ref 1), some (.int (zI b))] [] h8
      refine fx_aload_n (i := 0) d_BY_start_51 rfl rfl ?_
      refine fx_iconst d_BY_start_52 ?_
      refine fx_bipush (v := 42) d_BY_start_53 rfl ?_
      refine fx_callV (M' := M_BY_appendNumber) (B' := (0, 0)) (vs := [.int (zI 2), .int (zI 42)]) (rest := []) (c1 := 0) (s1 := 0) (n := 58) d_BY_start_55 ca_BY_start_53 (at_1 (h := _) hS8) rfl rfl rfl ⟨by decide, by decide⟩ (Nat.le_of_ble_eq_true rfl) (Or.inl rfl) (fx_Mt.mono H fun v h10 hv => ?_)
      obtain ⟨rfl, e11, H⟩ := hv
      have hS10 := e11.trans hS8
      show fx_V l M_BY_start (0, 0) Q 0 0 58 [some (.ref 1), some (.int (zI b))] [] h10
      refine fx_aload_n (i := 0) d_BY_start_58 rfl rfl ?_
      refine fx_iconst d_BY_start_59 ?_
      refine fx_iconst d_BY_start_60 ?_
      refine fx_callV (M' := M_BY_appendNumber) (B' := (0, 0)) (vs := [.int (zI 4), .int (zI 0)]) (rest := []) (c1 := 0) (s1 := 0) (n := 64) d_BY_start_61 ca_BY_start_53 (at_1 (h := _) hS10) rfl rfl rfl ⟨by decide, by decide⟩ (Nat.le_of_ble_eq_true rfl) (Or.inl rfl) (fx_Mt.mono H fun v h12 hv => ?_)
      obtain ⟨rfl, e13, H⟩ := hv
      have hS12 := e13.trans hS10
      show fx_V l M_BY_start (0, 0) Q 0 0 64 [some (.ref 1), some (.int (zI b))] [] h12
      exact fx_end none ⟨rfl, d_BY_start_64⟩ (Nat.le_refl _) (Nat.le_refl _) rfl H
    · replace H := H.2 z7
      refine fx_bipush (v := 77) d_BY_start_41 rfl ?_
      refine fx_goto (n := 48) d_BY_start_43 ?_
      refine fx_callV (M' := M_BY_append) (B' := (0, 0)) (vs := [.int (zI 77)]) (rest := []) (c1 := 0) (s1 := 0) (n := 51) d_BY_start_48 ca_BY_start_40 (at_1 (h := _) hS4) rfl rfl rfl ⟨by decide, by decide⟩ (Nat.le_of_ble_eq_true rfl) (Or.inl rfl) (fx_Mt.mono H fun v h14 hv => ?_)
      obtain ⟨rfl, e15, H⟩ := hv
      have hS14 := e15.trans hS4
      show fx_V l M_BY_start (0, 0) Q 0 0 51 [some (.ref 1), some (.int (zI b))] [] h14
      refine fx_aload_n (i := 0) d_BY_start_51 rfl rfl ?_
      refine fx_iconst d_BY_start_52 ?_
      refine fx_bipush (v := 42) d_BY_start_53 rfl ?_
      refine fx_callV (M' := M_BY_appendNumber) (B' := (0, 0)) (vs := [.int (zI 2), .int (zI 42)]) (rest := []) (c1 := 0) (s1 := 0) (n := 58) d_BY_start_55 ca_BY_start_53 (at_1 (h := _) hS14) rfl rfl rfl ⟨by decide, by decide⟩ (Nat.le_of_ble_eq_true rfl) (Or.inl rfl) (fx_Mt.mono H fun v h16 hv => ?_)
      obtain ⟨rfl, e17, H⟩ := hv
      have hS16 := e17.trans hS14
      show fx_V l M_BY_start (0, 0) Q 0 0 58 [some (.ref 1), some (.int (zI b))] [] h16
      refine fx_aload_n (i := 0) d_BY_start_58 rfl rfl ?_
      refine fx_iconst d_BY_start_59 ?_
      refine fx_iconst d_BY_start_60 ?_
      refine fx_callV (M' := M_BY_appendNumber) (B' := (0, 0)) (vs := [.int (zI 4), .int (zI 0)]) (rest := []) (c1 := 0) (s1 := 0) (n := 64) d_BY_start_61 ca_BY_start_53 (at_1 (h := _) hS16) rfl rfl rfl ⟨by decide, by decide⟩ (Nat.le_of_ble_eq_true rfl) (Or.inl rfl) (fx_Mt.mono H fun v h18 hv => ?_)
      obtain ⟨rfl, e19, H⟩ := hv
      have hS18 := e19.trans hS16
      show fx_V l M_BY_start (0, 0) Q 0 0 64 [some (.ref 1), some (.int (zI b))] [] h18
      exact fx_end none ⟨rfl, d_BY_start_64⟩ (Nat.le_refl _) (Nat.le_refl _) rfl H
  · replace H := H.2 z3
    refine fx_bipush (v := 77) d_BY_start_23 rfl ?_
    refine fx_goto (n := 30) d_BY_start_25 ?_
    refine fx_callV (M' := M_BY_append) (B' := (0, 0)) (vs := [.int (zI 77)]) (rest := []) (c1 := 0) (s1 := 0) (n := 33) d_BY_start_30 ca_BY_start_40 (at_1 (h := _) hS) rfl rfl rfl ⟨by decide, by decide⟩ (Nat.le_of_ble_eq_true rfl) (Or.inl rfl) (fx_Mt.mono H fun v h20 hv => ?_)
    obtain ⟨rfl, e21, H⟩ := hv
    have hS20 := e21.trans hS
    show fx_V l M_BY_start (0, 0) Q 0 0 33 [some (.ref 1), some (.int (zI b))] [] h20
    refine fx_aload_n (i := 0) d_BY_start_33 rfl rfl ?_
    refine fx_aload_n (i := 0) d_BY_start_34 rfl rfl ?_
    refine fx_getI d_BY_start_35 lk_BY_25 (at_1 (h := _) hS20) rfl ?_
    obtain ⟨hz22, H⟩ := H
    refine fx_if_eq (t := 46) (n := 41) d_BY_start_38 hz22 (fun z23 => ?_) (fun z23 => ?_)
    · replace H := H.1 z23
      refine fx_bipush (v := 73) d_BY_start_46 rfl ?_
      refine fx_callV (M' := M_BY_append) (B' := (0, 0)) (vs := [.int (zI 73)]) (rest := []) (c1 := 0) (s1 := 0) (n := 51) d_BY_start_48 ca_BY_start_40 (at_1 (h := _) hS20) rfl rfl rfl ⟨by decide, by decide⟩ (Nat.le_of_ble_eq_true rfl) (Or.inl rfl) (fx_Mt.mono H fun v h24 hv => ?_)
      obtain ⟨rfl, e25, H⟩ := hv
      have hS24 := e25.trans hS20
      show fx_V l M_BY_start (0, 0) Q 0 0 51 [some (.ref 1), some (.int (zI b))] [] h24
      refine fx_aload_n (i := 0) d_BY_start_51 rfl rfl ?_
      refine fx_iconst d_BY_start_52 ?_
      refine fx_bipush (v := 42) d_BY_start_53 rfl ?_
      refine fx_callV (M' := M_BY_appendNumber) (B' := (0, 0)) (vs := [.int (zI 2), .int (zI 42)]) (rest := []) (c1 := 0) (s1 := 0) (n := 58) d_BY_start_55 ca_BY_start_53 (at_1 (h := _) hS24) rfl rfl rfl ⟨by decide, by decide⟩ (Nat.le_of_ble_eq_true rfl) (Or.inl rfl) (fx_Mt.mono H fun v h26 hv => ?_)
      obtain ⟨rfl, e27, H⟩ := hv
      have hS26 := e27.trans hS24
      show fx_V l M_BY_start (0, 0) Q 0 0 58 [some (.ref 1), some (.int (zI b))] [] h26
      refine fx_aload_n (i := 0) d_BY_start_58 rfl rfl ?_
      refine fx_iconst d_BY_start_59 ?_
      refine fx_iconst d_BY_start_60 ?_
      refine fx_callV (M' := M_BY_appendNumber) (B' := (0, 0)) (vs := [.int (zI 4), .int (zI 0)]) (rest := []) (c1 := 0) (s1 := 0) (n := 64) d_BY_start_61 ca_BY_start_53 (at_1 (h := _) hS26) rfl rfl rfl ⟨by decide, by decide⟩ (Nat.le_of_ble_eq_true rfl) (Or.inl rfl) (fx_Mt.mono H fun v h28 hv => ?_)
      obtain ⟨rfl, e29, H⟩ := hv
      have hS28 := e29.trans hS26
      show fx_V l M_BY_start (0, 0) Q 0 0 64 [some (.ref 1), some (.int (zI b))] [] h28
      exact fx_end none ⟨rfl, d_BY_start_64⟩ (Nat.le_refl _) (Nat.le_refl _) rfl H
    · replace H := H.2 z23
      refine fx_bipush (v := 77) d_BY_start_41 rfl ?_
      refine fx_goto (n := 48) d_BY_start_43 ?_
      refine fx_callV (M' := M_BY_append) (B' := (0, 0)) (vs := [.int (zI 77)]) (rest := []) (c1 := 0) (s1 := 0) (n := 51) d_BY_start_48 ca_BY_start_40 (at_1 (h := _) hS20) rfl rfl rfl ⟨by decide, by decide⟩ (Nat.le_of_ble_eq_true rfl) (Or.inl rfl) (fx_Mt.mono H fun v h30 hv => ?_)
      obtain ⟨rfl, e31, H⟩ := hv
      have hS30 := e31.trans hS20
      show fx_V l M_BY_start (0, 0) Q 0 0 51 [some (.ref 1), some (.int (zI b))] [] h30
      refine fx_aload_n (i := 0) d_BY_start_51 rfl rfl ?_
      refine fx_iconst d_BY_start_52 ?_
      refine fx_bipush (v := 42) d_BY_start_53 rfl ?_
      refine fx_callV (M' := M_BY_appendNumber) (B' := (0, 0)) (vs := [.int (zI 2), .int (zI 42)]) (rest := []) (c1 := 0) (s1 := 0) (n := 58) d_BY_start_55 ca_BY_start_53 (at_1 (h := _) hS30) rfl rfl rfl ⟨by decide, by decide⟩ (Nat.le_of_ble_eq_true rfl) (Or.inl rfl) (fx_Mt.mono H fun v h32 hv => ?_)
      obtain ⟨rfl, e33, H⟩ := hv
      have hS32 := e33.trans hS30
      show fx_V l M_BY_start (0, 0) Q 0 0 58 [some (.ref 1), some (.int (zI b))] [] h32
      refine fx_aload_n (i := 0) d_BY_start_58 rfl rfl ?_
      refine fx_iconst d_BY_start_59 ?_
      refine fx_iconst d_BY_start_60 ?_
      refine fx_callV (M' := M_BY_appendNumber) (B' := (0, 0)) (vs := [.int (zI 4), .int (zI 0)]) (rest := []) (c1 := 0) (s1 := 0) (n := 64) d_BY_start_61 ca_BY_start_53 (at_1 (h := _) hS32) rfl rfl rfl ⟨by decide, by decide⟩ (Nat.le_of_ble_eq_true rfl) (Or.inl rfl) (fx_Mt.mono H fun v h34 hv => ?_)
      obtain ⟨rfl, e35, H⟩ := hv
      have hS34 := e35.trans hS32
      show fx_V l M_BY_start (0, 0) Q 0 0 64 [some (.ref 1), some (.int (zI b))] [] h34
      exact fx_end none ⟨rfl, d_BY_start_64⟩ (Nat.le_refl _) (Nat.le_refl _) rfl H

set_option maxRecDepth 100000 in
set_option maxHeartbeats 4000000 in
theorem e_BY_understandHeader {l : Launch} {Q : Option Value → fx_H → Prop} {h : fx_H}    {a : Nat → Nat} {pp dd : Nat} (hS : h.1 = fx_S0 a pp dd) 
    (H : fx_Mt l M_BY_byteAt (0, 0) [.ref 1, .int (zI 0)] h (fun v h1 => ∃ r3 : Int, v = some (.int (zI r3)) ∧ h1.1 = h.1 ∧ zR (h1.2.1 1 1) ∧ (((h1.2.1 1 1) < 8 → Q (some (.int (zI 0))) h1) ∧ (¬ ((h1.2.1 1 1) < 8) → fx_Mt l M_BY_byteAt (0, 0) [.ref 1, .int (zI 1)] h1 (fun v h6 => ∃ r8 : Int, v = some (.int (zI r8)) ∧ h6.1 = h1.1 ∧ zR r3 ∧ zR r8 ∧ ((¬ r3 = r8 → Q (some (.int (zI 0))) h6) ∧ (r3 = r8 → ((r3 = 73 → ((¬ r3 = 77 → fx_Mt l M_BY_numberAt (0, 0) [.ref 1, .int (zI 2), .int (zI 2)] (fx_uF h6 1 2 0) (fun v h14 => ∃ r16 : Int, v = some (.long (zL r16)) ∧ h14.1 = (fx_uF h6 1 2 0).1 ∧ zRL r16 ∧ ((¬ (zC r16 42) = 0 → Q (some (.int (zI 0))) h14) ∧ ((zC r16 42) = 0 → Q (some (.int (zI 1))) h14)))) ∧ (r3 = 77 → fx_Mt l M_BY_numberAt (0, 0) [.ref 1, .int (zI 2), .int (zI 2)] (fx_uF h6 1 2 1) (fun v h19 => ∃ r21 : Int, v = some (.long (zL r21)) ∧ h19.1 = (fx_uF h6 1 2 1).1 ∧ zRL r21 ∧ ((¬ (zC r21 42) = 0 → Q (some (.int (zI 0))) h19) ∧ ((zC r21 42) = 0 → Q (some (.int (zI 1))) h19)))))) ∧ (¬ (r3 = 73) → ((r3 = 77 → ((¬ r3 = 77 → fx_Mt l M_BY_numberAt (0, 0) [.ref 1, .int (zI 2), .int (zI 2)] (fx_uF h6 1 2 0) (fun v h26 => ∃ r28 : Int, v = some (.long (zL r28)) ∧ h26.1 = (fx_uF h6 1 2 0).1 ∧ zRL r28 ∧ ((¬ (zC r28 42) = 0 → Q (some (.int (zI 0))) h26) ∧ ((zC r28 42) = 0 → Q (some (.int (zI 1))) h26)))) ∧ (r3 = 77 → fx_Mt l M_BY_numberAt (0, 0) [.ref 1, .int (zI 2), .int (zI 2)] (fx_uF h6 1 2 1) (fun v h31 => ∃ r33 : Int, v = some (.long (zL r33)) ∧ h31.1 = (fx_uF h6 1 2 1).1 ∧ zRL r33 ∧ ((¬ (zC r33 42) = 0 → Q (some (.int (zI 0))) h31) ∧ ((zC r33 42) = 0 → Q (some (.int (zI 1))) h31)))))) ∧ (¬ (r3 = 77) → Q (some (.int (zI 0))) h6))))))))))) :
    fx_Mt l M_BY_understandHeader (0, 0) [.ref 1] h Q := by
  refine fx_entry (ls := [some (.ref 1), none]) (by decide) (Nat.le_of_ble_eq_true rfl) rfl ?_
  refine fx_aload_n (i := 0) d_BY_understandHeader_0 rfl rfl ?_
  refine fx_iconst d_BY_understandHeader_1 ?_
  refine fx_callV (M' := M_BY_byteAt) (B' := (0, 0)) (vs := [.int (zI 0)]) (rest := []) (c1 := 0) (s1 := 0) (n := 5) d_BY_understandHeader_2 ca_BY_understandHeader_29 (at_1 (h := _) hS) rfl rfl rfl ⟨by decide, by decide⟩ (Nat.le_of_ble_eq_true rfl) (Or.inl rfl) (fx_Mt.mono H fun v h1 hv => ?_)
  obtain ⟨r3, rfl, e2, H⟩ := hv
  have hS1 := e2.trans hS
  show fx_V l M_BY_understandHeader (0, 0) Q 0 0 5 [some (.ref 1), none] [.int (zI r3)] h1
  refine fx_istore_n (i := 1) (ls2 := [some (.ref 1), some (.int (zI r3))]) d_BY_understandHeader_5 rfl (by decide) rfl ?_
  refine fx_aload_n (i := 0) d_BY_understandHeader_6 rfl rfl ?_
  refine fx_getI d_BY_understandHeader_7 lk_BY_15 (at_1 (h := _) hS1) rfl ?_
  refine fx_bipush (v := 8) d_BY_understandHeader_10 rfl ?_
  obtain ⟨hz4, H⟩ := H
  refine fx_icmp_lt (t := 36) (n := 15) d_BY_understandHeader_12 hz4 (show zR 8 by decide) (fun z5 => ?_) (fun z5 => ?_)
  · replace H := H.1 z5
    refine fx_iconst d_BY_understandHeader_36 ?_
    exact fx_end (some (.int (zI 0))) ⟨⟨_, rfl, rfl⟩, d_BY_understandHeader_37⟩ (Nat.le_refl _) (Nat.le_refl _) rfl H
  · replace H := H.2 z5
    refine fx_iload_n (i := 1) d_BY_understandHeader_15 rfl rfl ?_
    refine fx_aload_n (i := 0) d_BY_understandHeader_16 rfl rfl ?_
    refine fx_iconst d_BY_understandHeader_17 ?_
    refine fx_callV (M' := M_BY_byteAt) (B' := (0, 0)) (vs := [.int (zI 1)]) (rest := [.int (zI r3)]) (c1 := 0) (s1 := 0) (n := 21) d_BY_understandHeader_18 ca_BY_understandHeader_29 (at_1 (h := _) hS1) rfl rfl rfl ⟨by decide, by decide⟩ (Nat.le_of_ble_eq_true rfl) (Or.inl rfl) (fx_Mt.mono H fun v h6 hv => ?_)
    obtain ⟨r8, rfl, e7, H⟩ := hv
    have hS6 := e7.trans hS1
    show fx_V l M_BY_understandHeader (0, 0) Q 0 0 21 [some (.ref 1), some (.int (zI r3))] [.int (zI r8), .int (zI r3)] h6
    obtain ⟨hz9, H⟩ := H
    obtain ⟨hz10, H⟩ := H
    refine fx_icmp_ne (t := 36) (n := 24) d_BY_understandHeader_21 hz9 hz10 (fun z11 => ?_) (fun z11 => ?_)
    · replace H := H.1 z11
      refine fx_iconst d_BY_understandHeader_36 ?_
      exact fx_end (some (.int (zI 0))) ⟨⟨_, rfl, rfl⟩, d_BY_understandHeader_37⟩ (Nat.le_refl _) (Nat.le_refl _) rfl H
    · replace H := H.2 z11
      refine fx_iload_n (i := 1) d_BY_understandHeader_24 rfl rfl ?_
      refine fx_bipush (v := 73) d_BY_understandHeader_25 rfl ?_
      refine fx_icmp_eq (t := 38) (n := 30) d_BY_understandHeader_27 hz9 (show zR 73 by decide) (fun z12 => ?_) (fun z12 => ?_)
      · replace H := H.1 z12
        refine fx_aload_n (i := 0) d_BY_understandHeader_38 rfl rfl ?_
        refine fx_iload_n (i := 1) d_BY_understandHeader_39 rfl rfl ?_
        refine fx_bipush (v := 77) d_BY_understandHeader_40 rfl ?_
        refine fx_icmp_ne (t := 49) (n := 45) d_BY_understandHeader_42 hz9 (show zR 77 by decide) (fun z13 => ?_) (fun z13 => ?_)
        · replace H := H.1 z13
          refine fx_iconst d_BY_understandHeader_49 ?_
          refine fx_putI d_BY_understandHeader_50 lk_BY_25 (at_1 (h := _) hS6) rfl rfl rfl ?_
          refine fx_aload_n (i := 0) d_BY_understandHeader_53 rfl rfl ?_
          refine fx_iconst d_BY_understandHeader_54 ?_
          refine fx_iconst d_BY_understandHeader_55 ?_
          refine fx_callV (M' := M_BY_numberAt) (B' := (0, 0)) (vs := [.int (zI 2), .int (zI 2)]) (rest := []) (c1 := 0) (s1 := 0) (n := 59) d_BY_understandHeader_56 ca_BY_understandHeader_56 (at_1 (h := _) hS6) rfl rfl rfl ⟨by decide, by decide⟩ (Nat.le_of_ble_eq_true rfl) (Or.inl rfl) (fx_Mt.mono H fun v h14 hv => ?_)
          obtain ⟨r16, rfl, e15, H⟩ := hv
          have hS14 := e15.trans hS6
          show fx_V l M_BY_understandHeader (0, 0) Q 0 0 59 [some (.ref 1), some (.int (zI r3))] [.long (zL r16)] h14
          refine fx_ldc2 (v := 42) d_BY_understandHeader_59 (fx_in 352 (by decide +kernel) rfl) ?_
          obtain ⟨hz17, H⟩ := H
          refine fx_lcmp d_BY_understandHeader_62 hz17 (show zRL 42 by decide) ?_
          refine fx_if_ne (t := 70) (n := 66) d_BY_understandHeader_63 (zC_R _ _) (fun z18 => ?_) (fun z18 => ?_)
          · replace H := H.1 z18
            refine fx_iconst d_BY_understandHeader_70 ?_
            exact fx_end (some (.int (zI 0))) ⟨⟨_, rfl, rfl⟩, d_BY_understandHeader_71⟩ (Nat.le_refl _) (Nat.le_refl _) rfl H
          · replace H := H.2 z18
            refine fx_iconst d_BY_understandHeader_66 ?_
            refine fx_goto (n := 71) d_BY_understandHeader_67 ?_
            exact fx_end (some (.int (zI 1))) ⟨⟨_, rfl, rfl⟩, d_BY_understandHeader_71⟩ (Nat.le_refl _) (Nat.le_refl _) rfl H
        · replace H := H.2 z13
          refine fx_iconst d_BY_understandHeader_45 ?_
          refine fx_goto (n := 50) d_BY_understandHeader_46 ?_
          refine fx_putI d_BY_understandHeader_50 lk_BY_25 (at_1 (h := _) hS6) rfl rfl rfl ?_
          refine fx_aload_n (i := 0) d_BY_understandHeader_53 rfl rfl ?_
          refine fx_iconst d_BY_understandHeader_54 ?_
          refine fx_iconst d_BY_understandHeader_55 ?_
          refine fx_callV (M' := M_BY_numberAt) (B' := (0, 0)) (vs := [.int (zI 2), .int (zI 2)]) (rest := []) (c1 := 0) (s1 := 0) (n := 59) d_BY_understandHeader_56 ca_BY_understandHeader_56 (at_1 (h := _) hS6) rfl rfl rfl ⟨by decide, by decide⟩ (Nat.le_of_ble_eq_true rfl) (Or.inl rfl) (fx_Mt.mono H fun v h19 hv => ?_)
          obtain ⟨r21, rfl, e20, H⟩ := hv
          have hS19 := e20.trans hS6
          show fx_V l M_BY_understandHeader (0, 0) Q 0 0 59 [some (.ref 1), some (.int (zI r3))] [.long (zL r21)] h19
          refine fx_ldc2 (v := 42) d_BY_understandHeader_59 (fx_in 352 (by decide +kernel) rfl) ?_
          obtain ⟨hz22, H⟩ := H
          refine fx_lcmp d_BY_understandHeader_62 hz22 (show zRL 42 by decide) ?_
          refine fx_if_ne (t := 70) (n := 66) d_BY_understandHeader_63 (zC_R _ _) (fun z23 => ?_) (fun z23 => ?_)
          · replace H := H.1 z23
            refine fx_iconst d_BY_understandHeader_70 ?_
            exact fx_end (some (.int (zI 0))) ⟨⟨_, rfl, rfl⟩, d_BY_understandHeader_71⟩ (Nat.le_refl _) (Nat.le_refl _) rfl H
          · replace H := H.2 z23
            refine fx_iconst d_BY_understandHeader_66 ?_
            refine fx_goto (n := 71) d_BY_understandHeader_67 ?_
            exact fx_end (some (.int (zI 1))) ⟨⟨_, rfl, rfl⟩, d_BY_understandHeader_71⟩ (Nat.le_refl _) (Nat.le_refl _) rfl H
      · replace H := H.2 z12
        refine fx_iload_n (i := 1) d_BY_understandHeader_30 rfl rfl ?_
        refine fx_bipush (v := 77) d_BY_understandHeader_31 rfl ?_
        refine fx_icmp_eq (t := 38) (n := 36) d_BY_understandHeader_33 hz9 (show zR 77 by decide) (fun z24 => ?_) (fun z24 => ?_)
        · replace H := H.1 z24
          refine fx_aload_n (i := 0) d_BY_understandHeader_38 rfl rfl ?_
          refine fx_iload_n (i := 1) d_BY_understandHeader_39 rfl rfl ?_
          refine fx_bipush (v := 77) d_BY_understandHeader_40 rfl ?_
          refine fx_icmp_ne (t := 49) (n := 45) d_BY_understandHeader_42 hz9 (show zR 77 by decide) (fun z25 => ?_) (fun z25 => ?_)
          · replace H := H.1 z25
            refine fx_iconst d_BY_understandHeader_49 ?_
            refine fx_putI d_BY_understandHeader_50 lk_BY_25 (at_1 (h := _) hS6) rfl rfl rfl ?_
            refine fx_aload_n (i := 0) d_BY_understandHeader_53 rfl rfl ?_
            refine fx_iconst d_BY_understandHeader_54 ?_
            refine fx_iconst d_BY_understandHeader_55 ?_
            refine fx_callV (M' := M_BY_numberAt) (B' := (0, 0)) (vs := [.int (zI 2), .int (zI 2)]) (rest := []) (c1 := 0) (s1 := 0) (n := 59) d_BY_understandHeader_56 ca_BY_understandHeader_56 (at_1 (h := _) hS6) rfl rfl rfl ⟨by decide, by decide⟩ (Nat.le_of_ble_eq_true rfl) (Or.inl rfl) (fx_Mt.mono H fun v h26 hv => ?_)
            obtain ⟨r28, rfl, e27, H⟩ := hv
            have hS26 := e27.trans hS6
            show fx_V l M_BY_understandHeader (0, 0) Q 0 0 59 [some (.ref 1), some (.int (zI r3))] [.long (zL r28)] h26
            refine fx_ldc2 (v := 42) d_BY_understandHeader_59 (fx_in 352 (by decide +kernel) rfl) ?_
            obtain ⟨hz29, H⟩ := H
            refine fx_lcmp d_BY_understandHeader_62 hz29 (show zRL 42 by decide) ?_
            refine fx_if_ne (t := 70) (n := 66) d_BY_understandHeader_63 (zC_R _ _) (fun z30 => ?_) (fun z30 => ?_)
            · replace H := H.1 z30
              refine fx_iconst d_BY_understandHeader_70 ?_
              exact fx_end (some (.int (zI 0))) ⟨⟨_, rfl, rfl⟩, d_BY_understandHeader_71⟩ (Nat.le_refl _) (Nat.le_refl _) rfl H
            · replace H := H.2 z30
              refine fx_iconst d_BY_understandHeader_66 ?_
              refine fx_goto (n := 71) d_BY_understandHeader_67 ?_
              exact fx_end (some (.int (zI 1))) ⟨⟨_, rfl, rfl⟩, d_BY_understandHeader_71⟩ (Nat.le_refl _) (Nat.le_refl _) rfl H
          · replace H := H.2 z25
            refine fx_iconst d_BY_understandHeader_45 ?_
            refine fx_goto (n := 50) d_BY_understandHeader_46 ?_
            refine fx_putI d_BY_understandHeader_50 lk_BY_25 (at_1 (h := _) hS6) rfl rfl rfl ?_
            refine fx_aload_n (i := 0) d_BY_understandHeader_53 rfl rfl ?_
            refine fx_iconst d_BY_understandHeader_54 ?_
            refine fx_iconst d_BY_understandHeader_55 ?_
            refine fx_callV (M' := M_BY_numberAt) (B' := (0, 0)) (vs := [.int (zI 2), .int (zI 2)]) (rest := []) (c1 := 0) (s1 := 0) (n := 59) d_BY_understandHeader_56 ca_BY_understandHeader_56 (at_1 (h := _) hS6) rfl rfl rfl ⟨by decide, by decide⟩ (Nat.le_of_ble_eq_true rfl) (Or.inl rfl) (fx_Mt.mono H fun v h31 hv => ?_)
            obtain ⟨r33, rfl, e32, H⟩ := hv
            have hS31 := e32.trans hS6
            show fx_V l M_BY_understandHeader (0, 0) Q 0 0 59 [some (.ref 1), some (.int (zI r3))] [.long (zL r33)] h31
            refine fx_ldc2 (v := 42) d_BY_understandHeader_59 (fx_in 352 (by decide +kernel) rfl) ?_
            obtain ⟨hz34, H⟩ := H
            refine fx_lcmp d_BY_understandHeader_62 hz34 (show zRL 42 by decide) ?_
            refine fx_if_ne (t := 70) (n := 66) d_BY_understandHeader_63 (zC_R _ _) (fun z35 => ?_) (fun z35 => ?_)
            · replace H := H.1 z35
              refine fx_iconst d_BY_understandHeader_70 ?_
              exact fx_end (some (.int (zI 0))) ⟨⟨_, rfl, rfl⟩, d_BY_understandHeader_71⟩ (Nat.le_refl _) (Nat.le_refl _) rfl H
            · replace H := H.2 z35
              refine fx_iconst d_BY_understandHeader_66 ?_
              refine fx_goto (n := 71) d_BY_understandHeader_67 ?_
              exact fx_end (some (.int (zI 1))) ⟨⟨_, rfl, rfl⟩, d_BY_understandHeader_71⟩ (Nat.le_refl _) (Nat.le_refl _) rfl H
        · replace H := H.2 z24
          refine fx_iconst d_BY_understandHeader_36 ?_
          exact fx_end (some (.int (zI 0))) ⟨⟨_, rfl, rfl⟩, d_BY_understandHeader_37⟩ (Nat.le_refl _) (Nat.le_refl _) rfl H

set_option maxRecDepth 100000 in
set_option maxHeartbeats 4000000 in
theorem e_FP_lengthOf {l : Launch} {Q : Option Value → fx_H → Prop} {h : fx_H}  {u : Int}  {a : Nat → Nat} {pp dd : Nat} (hS : h.1 = fx_S0 a pp dd) 
    (H : (fx_V l M_FP_lengthOf (0, 0) Q 0 0 4 [none, some (.int (zI 0)), some (.int (zI u))] [] h)) :
    fx_Mt l M_FP_lengthOf (0, 0) [.int (zI u)] h Q := by
  refine fx_entry (ls := [some (.int (zI u)), none, none]) (by decide) (Nat.le_of_ble_eq_true rfl) rfl ?_
  refine fx_iconst d_FP_lengthOf_0 ?_
  refine fx_istore_n (i := 1) (ls2 := [some (.int (zI u)), some (.int (zI 0)), none]) d_FP_lengthOf_1 rfl (by decide) rfl ?_
  refine fx_iload_n (i := 0) d_FP_lengthOf_2 rfl rfl ?_
  refine fx_istore_n (i := 2) (ls2 := [some (.int (zI u)), some (.int (zI 0)), some (.int (zI u))]) d_FP_lengthOf_3 rfl (by decide) rfl ?_
  exact fx_fewer [none, some (.int (zI 0)), some (.int (zI u))] ⟨rfl, rfl, trivial⟩ H

set_option maxRecDepth 100000 in
set_option maxHeartbeats 4000000 in
theorem w_FP_lengthOf_4 {l : Launch} {Q : Option Value → fx_H → Prop} {h : fx_H}  {x1 : Int} {x2 : Int}  {a : Nat → Nat} {pp dd : Nat} (hS : h.1 = fx_S0 a pp dd) 
    (H : zR x2 ∧ ((x2 ≤ 1 → Q (some (.int (zI x1))) h) ∧ (¬ (x2 ≤ 1) → (fx_V l M_FP_lengthOf (0, 0) Q 0 0 4 [none, some (.int (zI (x1 + 1))), some (.int (zI (x2 / 2 ^ 1)))] [] h)))) :
    fx_V l M_FP_lengthOf (0, 0) Q 0 0 4 [none, some (.int (zI x1)), some (.int (zI x2))] [] h := by
  refine fx_iload_n (i := 2) d_FP_lengthOf_4 rfl rfl ?_
  refine fx_iconst d_FP_lengthOf_5 ?_
  obtain ⟨hz1, H⟩ := H
  refine fx_icmp_le (t := 19) (n := 9) d_FP_lengthOf_6 hz1 (show zR 1 by decide) (fun z2 => ?_) (fun z2 => ?_)
  · replace H := H.1 z2
    refine fx_iload_n (i := 1) d_FP_lengthOf_19 rfl rfl ?_
    exact fx_end (some (.int (zI x1))) ⟨⟨_, rfl, rfl⟩, d_FP_lengthOf_20⟩ (Nat.le_refl _) (Nat.le_refl _) rfl H
  · replace H := H.2 z2
    refine fx_iinc (v := x1 + 1) (ls2 := [none, some (.int (zI (x1 + 1))), some (.int (zI x2))]) d_FP_lengthOf_9 rfl rfl (by decide) rfl ?_
    refine fx_iload_n (i := 2) d_FP_lengthOf_12 rfl rfl ?_
    refine fx_iconst d_FP_lengthOf_13 ?_
    refine fx_ishr (j := 1) d_FP_lengthOf_14 hz1 (by decide) ?_
    refine fx_istore_n (i := 2) (ls2 := [none, some (.int (zI (x1 + 1))), some (.int (zI (x2 / 2 ^ 1)))]) d_FP_lengthOf_15 rfl (by decide) rfl ?_
    refine fx_goto (n := 4) d_FP_lengthOf_16 ?_
    exact H

