/-! what is owed of the numbers, by program (wip/printvc.py) -/
set_option maxRecDepth 100000 in
set_option maxHeartbeats 4000000 in
theorem e_MO_size {l : Launch} {Q : Option Value → fx_H → Prop} {h : fx_H}    {a : Nat → Nat} {pp dd : Nat} (hS : h.1 = fx_S0 a pp dd) 
    (H : Q (some (.int (zI (h.2.1 31 5)))) (fx_uF h 31 0 0)) :
    fx_Mt l M_MO_size (0, 0) [.ref 31] h Q := by
  refine fx_entry (ls := [some (.ref 31)]) (by decide) (Nat.le_of_ble_eq_true rfl) rfl ?_
  refine fx_aload_n (i := 0) d_MO_size_0 rfl rfl ?_
  refine fx_iconst d_MO_size_1 ?_
  refine fx_putI d_MO_size_2 lk_MO_80 (at_31 (h := _) hS) rfl rfl rfl ?_
  refine fx_aload_n (i := 0) d_MO_size_5 rfl rfl ?_
  refine fx_getI d_MO_size_6 lk_MO_105 (at_31 (h := _) hS) rfl ?_
  exact fx_end (some (.int (zI (h.2.1 31 5)))) ⟨⟨_, rfl, rfl⟩, d_MO_size_9⟩ (Nat.le_refl _) (Nat.le_refl _) rfl H

set_option maxRecDepth 100000 in
set_option maxHeartbeats 4000000 in
theorem e_MO_at {l : Launch} {Q : Option Value → fx_H → Prop} {h : fx_H}  {x : Int}  {a : Nat → Nat} {pp dd : Nat} (hS : h.1 = fx_S0 a pp dd) 
    (H : zR x ∧ ((x < 0 → Q (some (.int (zI (-9)))) (fx_uF h 31 0 0)) ∧ (¬ (x < 0) → zR (h.2.1 31 5) ∧ ((x < (h.2.1 31 5) → 0 ≤ x ∧ x < 2000 ∧ Q (some (.int (zI (h.2.2.1 33 (x.toNat))))) (fx_uF h 31 0 0)) ∧ (¬ (x < (h.2.1 31 5)) → Q (some (.int (zI (-9)))) (fx_uF h 31 0 0)))))) :
    fx_Mt l M_MO_at (0, 0) [.ref 31, .int (zI x)] h Q := by
  refine fx_entry (ls := [some (.ref 31), some (.int (zI x))]) (by decide) (Nat.le_of_ble_eq_true rfl) rfl ?_
  refine fx_aload_n (i := 0) d_MO_at_0 rfl rfl ?_
  refine fx_iconst d_MO_at_1 ?_
  refine fx_putI d_MO_at_2 lk_MO_80 (at_31 (h := _) hS) rfl rfl rfl ?_
  refine fx_iload_n (i := 1) d_MO_at_5 rfl rfl ?_
  obtain ⟨hz1, H⟩ := H
  refine fx_if_lt (t := 17) (n := 9) d_MO_at_6 hz1 (fun z2 => ?_) (fun z2 => ?_)
  · replace H := H.1 z2
    refine fx_bipush (v := -9) d_MO_at_17 rfl ?_
    refine fx_goto (n := 28) d_MO_at_19 ?_
    exact fx_end (some (.int (zI (-9)))) ⟨⟨_, rfl, rfl⟩, d_MO_at_28⟩ (Nat.le_refl _) (Nat.le_refl _) rfl H
  · replace H := H.2 z2
    refine fx_iload_n (i := 1) d_MO_at_9 rfl rfl ?_
    refine fx_aload_n (i := 0) d_MO_at_10 rfl rfl ?_
    refine fx_getI d_MO_at_11 lk_MO_105 (at_31 (h := _) hS) rfl ?_
    obtain ⟨hz3, H⟩ := H
    refine fx_icmp_lt (t := 22) (n := 17) d_MO_at_14 hz1 hz3 (fun z4 => ?_) (fun z4 => ?_)
    · replace H := H.1 z4
      refine fx_aload_n (i := 0) d_MO_at_22 rfl rfl ?_
      refine fx_getR (q := 33) d_MO_at_23 lk_MO_20 (at_31 (h := _) hS) rfl rfl ?_
      refine fx_iload_n (i := 1) d_MO_at_26 rfl rfl ?_
      obtain ⟨hn5, H⟩ := H
      obtain ⟨hn6, H⟩ := H
      refine fx_iald d_MO_at_27 (at_33 (h := _) hS) hn5 hn6 (by decide) ?_
      exact fx_end (some (.int (zI (h.2.2.1 33 (x.toNat))))) ⟨⟨_, rfl, rfl⟩, d_MO_at_28⟩ (Nat.le_refl _) (Nat.le_refl _) rfl H
    · replace H := H.2 z4
      refine fx_bipush (v := -9) d_MO_at_17 rfl ?_
      refine fx_goto (n := 28) d_MO_at_19 ?_
      exact fx_end (some (.int (zI (-9)))) ⟨⟨_, rfl, rfl⟩, d_MO_at_28⟩ (Nat.le_refl _) (Nat.le_refl _) rfl H

set_option maxRecDepth 100000 in
set_option maxHeartbeats 4000000 in
theorem e_MO_put {l : Launch} {Q : Option Value → fx_H → Prop} {h : fx_H}  {x : Int} {y : Int}  {a : Nat → Nat} {pp dd : Nat} (hS : h.1 = fx_S0 a pp dd) 
    (H : zR x ∧ ((x < 0 → zR y ∧ ((y < 0 → fx_Mt l M_MO_refused (0, 0) [.ref 31, .int (zI 1), .int (zI 1)] h (fun v h5 => ∃ r7 : Int, v = some (.int (zI r7)) ∧ h5.1 = h.1 ∧ zR r7 ∧ ((r7 = 0 → 0 ≤ x ∧ x < 2000 ∧ 0 ≤ x ∧ x < 2000 ∧ Q (some (.int (zI (h5.2.2.1 33 (x.toNat))))) (fx_uA h5 33 (x.toNat) y)) ∧ (¬ (r7 = 0) → Q (some (.int (zI 0))) h5)))) ∧ (¬ (y < 0) → ((y ≤ 255 → fx_Mt l M_MO_refused (0, 0) [.ref 31, .int (zI 1), .int (zI 0)] h (fun v h15 => ∃ r17 : Int, v = some (.int (zI r17)) ∧ h15.1 = h.1 ∧ zR r17 ∧ ((r17 = 0 → 0 ≤ x ∧ x < 2000 ∧ 0 ≤ x ∧ x < 2000 ∧ Q (some (.int (zI (h15.2.2.1 33 (x.toNat))))) (fx_uA h15 33 (x.toNat) y)) ∧ (¬ (r17 = 0) → Q (some (.int (zI 0))) h15)))) ∧ (¬ (y ≤ 255) → fx_Mt l M_MO_refused (0, 0) [.ref 31, .int (zI 1), .int (zI 1)] h (fun v h24 => ∃ r26 : Int, v = some (.int (zI r26)) ∧ h24.1 = h.1 ∧ zR r26 ∧ ((r26 = 0 → 0 ≤ x ∧ x < 2000 ∧ 0 ≤ x ∧ x < 2000 ∧ Q (some (.int (zI (h24.2.2.1 33 (x.toNat))))) (fx_uA h24 33 (x.toNat) y)) ∧ (¬ (r26 = 0) → Q (some (.int (zI 0))) h24)))))))) ∧ (¬ (x < 0) → zR (h.2.1 31 5) ∧ ((x < (h.2.1 31 5) → zR y ∧ ((y < 0 → fx_Mt l M_MO_refused (0, 0) [.ref 31, .int (zI 0), .int (zI 1)] h (fun v h37 => ∃ r39 : Int, v = some (.int (zI r39)) ∧ h37.1 = h.1 ∧ zR r39 ∧ ((r39 = 0 → 0 ≤ x ∧ x < 2000 ∧ 0 ≤ x ∧ x < 2000 ∧ Q (some (.int (zI (h37.2.2.1 33 (x.toNat))))) (fx_uA h37 33 (x.toNat) y)) ∧ (¬ (r39 = 0) → Q (some (.int (zI 0))) h37)))) ∧ (¬ (y < 0) → ((y ≤ 255 → fx_Mt l M_MO_refused (0, 0) [.ref 31, .int (zI 0), .int (zI 0)] h (fun v h47 => ∃ r49 : Int, v = some (.int (zI r49)) ∧ h47.1 = h.1 ∧ zR r49 ∧ ((r49 = 0 → 0 ≤ x ∧ x < 2000 ∧ 0 ≤ x ∧ x < 2000 ∧ Q (some (.int (zI (h47.2.2.1 33 (x.toNat))))) (fx_uA h47 33 (x.toNat) y)) ∧ (¬ (r49 = 0) → Q (some (.int (zI 0))) h47)))) ∧ (¬ (y ≤ 255) → fx_Mt l M_MO_refused (0, 0) [.ref 31, .int (zI 0), .int (zI 1)] h (fun v h56 => ∃ r58 : Int, v = some (.int (zI r58)) ∧ h56.1 = h.1 ∧ zR r58 ∧ ((r58 = 0 → 0 ≤ x ∧ x < 2000 ∧ 0 ≤ x ∧ x < 2000 ∧ Q (some (.int (zI (h56.2.2.1 33 (x.toNat))))) (fx_uA h56 33 (x.toNat) y)) ∧ (¬ (r58 = 0) → Q (some (.int (zI 0))) h56)))))))) ∧ (¬ (x < (h.2.1 31 5)) → zR y ∧ ((y < 0 → fx_Mt l M_MO_refused (0, 0) [.ref 31, .int (zI 1), .int (zI 1)] h (fun v h67 => ∃ r69 : Int, v = some (.int (zI r69)) ∧ h67.1 = h.1 ∧ zR r69 ∧ ((r69 = 0 → 0 ≤ x ∧ x < 2000 ∧ 0 ≤ x ∧ x < 2000 ∧ Q (some (.int (zI (h67.2.2.1 33 (x.toNat))))) (fx_uA h67 33 (x.toNat) y)) ∧ (¬ (r69 = 0) → Q (some (.int (zI 0))) h67)))) ∧ (¬ (y < 0) → ((y ≤ 255 → fx_Mt l M_MO_refused (0, 0) [.ref 31, .int (zI 1), .int (zI 0)] h (fun v h77 => ∃ r79 : Int, v = some (.int (zI r79)) ∧ h77.1 = h.1 ∧ zR r79 ∧ ((r79 = 0 → 0 ≤ x ∧ x < 2000 ∧ 0 ≤ x ∧ x < 2000 ∧ Q (some (.int (zI (h77.2.2.1 33 (x.toNat))))) (fx_uA h77 33 (x.toNat) y)) ∧ (¬ (r79 = 0) → Q (some (.int (zI 0))) h77)))) ∧ (¬ (y ≤ 255) → fx_Mt l M_MO_refused (0, 0) [.ref 31, .int (zI 1), .int (zI 1)] h (fun v h86 => ∃ r88 : Int, v = some (.int (zI r88)) ∧ h86.1 = h.1 ∧ zR r88 ∧ ((r88 = 0 → 0 ≤ x ∧ x < 2000 ∧ 0 ≤ x ∧ x < 2000 ∧ Q (some (.int (zI (h86.2.2.1 33 (x.toNat))))) (fx_uA h86 33 (x.toNat) y)) ∧ (¬ (r88 = 0) → Q (some (.int (zI 0))) h86)))))))))))) :
    fx_Mt l M_MO_put (0, 0) [.ref 31, .int (zI x), .int (zI y)] h Q := by
  refine fx_entry (ls := [some (.ref 31), some (.int (zI x)), some (.int (zI y)), none]) (by decide) (Nat.le_of_ble_eq_true rfl) rfl ?_
  refine fx_aload_n (i := 0) d_MO_put_0 rfl rfl ?_
  refine fx_iload_n (i := 1) d_MO_put_1 rfl rfl ?_
  obtain ⟨hz1, H⟩ := H
  refine fx_if_lt (t := 13) (n := 5) d_MO_put_2 hz1 (fun z2 => ?_) (fun z2 => ?_)
  · replace H := H.1 z2
    refine fx_iconst d_MO_put_13 ?_
    refine fx_goto (n := 18) d_MO_put_14 ?_
    refine fx_iload_n (i := 2) d_MO_put_18 rfl rfl ?_
    obtain ⟨hz3, H⟩ := H
    refine fx_if_lt (t := 29) (n := 22) d_MO_put_19 hz3 (fun z4 => ?_) (fun z4 => ?_)
    · replace H := H.1 z4
      refine fx_iconst d_MO_put_29 ?_
      refine fx_goto (n := 34) d_MO_put_30 ?_
      refine fx_callV (M' := M_MO_refused) (B' := (0, 0)) (vs := [.int (zI 1), .int (zI 1)]) (rest := []) (c1 := 0) (s1 := 0) (n := 37) d_MO_put_34 ca_MO_put_93 (at_31 (h := _) hS) rfl rfl rfl ⟨by decide, by decide⟩ (Nat.le_of_ble_eq_true rfl) (Or.inl rfl) (fx_Mt.mono H fun v h5 hv => ?_)
      obtain ⟨r7, rfl, e6, H⟩ := hv
      have hS5 := e6.trans hS
      show fx_V l M_MO_put (0, 0) Q 0 0 37 [some (.ref 31), some (.int (zI x)), some (.int (zI y)), none] [.int (zI r7)] h5
      obtain ⟨hz8, H⟩ := H
      refine fx_if_eq (t := 42) (n := 40) d_MO_put_37 hz8 (fun z9 => ?_) (fun z9 => ?_)
      · replace H := H.1 z9
        refine fx_aload_n (i := 0) d_MO_put_42 rfl rfl ?_
        refine fx_getR (q := 33) d_MO_put_43 lk_MO_20 (at_31 (h := _) hS5) rfl rfl ?_
        refine fx_iload_n (i := 1) d_MO_put_46 rfl rfl ?_
        obtain ⟨hn10, H⟩ := H
        obtain ⟨hn11, H⟩ := H
        refine fx_iald d_MO_put_47 (at_33 (h := _) hS5) hn10 hn11 (by decide) ?_
        refine fx_istore_n (i := 3) (ls2 := [some (.ref 31), some (.int (zI x)), some (.int (zI y)), some (.int (zI (h5.2.2.1 33 (x.toNat))))]) d_MO_put_48 rfl (by decide) rfl ?_
        refine fx_aload_n (i := 0) d_MO_put_49 rfl rfl ?_
        refine fx_getR (q := 33) d_MO_put_50 lk_MO_20 (at_31 (h := _) hS5) rfl rfl ?_
        refine fx_iload_n (i := 1) d_MO_put_53 rfl rfl ?_
        refine fx_iload_n (i := 2) d_MO_put_54 rfl rfl ?_
        obtain ⟨hn12, H⟩ := H
        obtain ⟨hn13, H⟩ := H
        refine fx_iast d_MO_put_55 (at_33 (h := _) hS5) hn12 hn13 (by decide) ?_
        refine fx_iload_n (i := 3) d_MO_put_56 rfl rfl ?_
        exact fx_end (some (.int (zI (h5.2.2.1 33 (x.toNat))))) ⟨⟨_, rfl, rfl⟩, d_MO_put_57⟩ (Nat.le_refl _) (Nat.le_refl _) rfl H
      · replace H := H.2 z9
        refine fx_iconst d_MO_put_40 ?_
        exact fx_end (some (.int (zI 0))) ⟨⟨_, rfl, rfl⟩, d_MO_put_41⟩ (Nat.le_refl _) (Nat.le_refl _) rfl H
    · replace H := H.2 z4
      refine fx_iload_n (i := 2) d_MO_put_22 rfl rfl ?_
      refine fx_sipush (v := 255) d_MO_put_23 rfl ?_
      refine fx_icmp_le (t := 33) (n := 29) d_MO_put_26 hz3 (show zR 255 by decide) (fun z14 => ?_) (fun z14 => ?_)
      · replace H := H.1 z14
        refine fx_iconst d_MO_put_33 ?_
        refine fx_callV (M' := M_MO_refused) (B' := (0, 0)) (vs := [.int (zI 1), .int (zI 0)]) (rest := []) (c1 := 0) (s1 := 0) (n := 37) d_MO_put_34 ca_MO_put_93 (at_31 (h := _) hS) rfl rfl rfl ⟨by decide, by decide⟩ (Nat.le_of_ble_eq_true rfl) (Or.inl rfl) (fx_Mt.mono H fun v h15 hv => ?_)
        obtain ⟨r17, rfl, e16, H⟩ := hv
        have hS15 := e16.trans hS
        show fx_V l M_MO_put (0, 0) Q 0 0 37 [some (.ref 31), some (.int (zI x)), some (.int (zI y)), none] [.int (zI r17)] h15
        obtain ⟨hz18, H⟩ := H
        refine fx_if_eq (t := 42) (n := 40) d_MO_put_37 hz18 (fun z19 => ?_) (fun z19 => ?_)
        · replace H := H.1 z19
          refine fx_aload_n (i := 0) d_MO_put_42 rfl rfl ?_
          refine fx_getR (q := 33) d_MO_put_43 lk_MO_20 (at_31 (h := _) hS15) rfl rfl ?_
          refine fx_iload_n (i := 1) d_MO_put_46 rfl rfl ?_
          obtain ⟨hn20, H⟩ := H
          obtain ⟨hn21, H⟩ := H
          refine fx_iald d_MO_put_47 (at_33 (h := _) hS15) hn20 hn21 (by decide) ?_
          refine fx_istore_n (i := 3) (ls2 := [some (.ref 31), some (.int (zI x)), some (.int (zI y)), some (.int (zI (h15.2.2.1 33 (x.toNat))))]) d_MO_put_48 rfl (by decide) rfl ?_
          refine fx_aload_n (i := 0) d_MO_put_49 rfl rfl ?_
          refine fx_getR (q := 33) d_MO_put_50 lk_MO_20 (at_31 (h := _) hS15) rfl rfl ?_
          refine fx_iload_n (i := 1) d_MO_put_53 rfl rfl ?_
          refine fx_iload_n (i := 2) d_MO_put_54 rfl rfl ?_
          obtain ⟨hn22, H⟩ := H
          obtain ⟨hn23, H⟩ := H
          refine fx_iast d_MO_put_55 (at_33 (h := _) hS15) hn22 hn23 (by decide) ?_
          refine fx_iload_n (i := 3) d_MO_put_56 rfl rfl ?_
          exact fx_end (some (.int (zI (h15.2.2.1 33 (x.toNat))))) ⟨⟨_, rfl, rfl⟩, d_MO_put_57⟩ (Nat.le_refl _) (Nat.le_refl _) rfl H
        · replace H := H.2 z19
          refine fx_iconst d_MO_put_40 ?_
          exact fx_end (some (.int (zI 0))) ⟨⟨_, rfl, rfl⟩, d_MO_put_41⟩ (Nat.le_refl _) (Nat.le_refl _) rfl H
      · replace H := H.2 z14
        refine fx_iconst d_MO_put_29 ?_
        refine fx_goto (n := 34) d_MO_put_30 ?_
        refine fx_callV (M' := M_MO_refused) (B' := (0, 0)) (vs := [.int (zI 1), .int (zI 1)]) (rest := []) (c1 := 0) (s1 := 0) (n := 37) d_MO_put_34 ca_MO_put_93 (at_31 (h := _) hS) rfl rfl rfl ⟨by decide, by decide⟩ (Nat.le_of_ble_eq_true rfl) (Or.inl rfl) (fx_Mt.mono H fun v h24 hv => ?_)
        obtain ⟨r26, rfl, e25, H⟩ := hv
        have hS24 := e25.trans hS
        show fx_V l M_MO_put (0, 0) Q 0 0 37 [some (.ref 31), some (.int (zI x)), some (.int (zI y)), none] [.int (zI r26)] h24
        obtain ⟨hz27, H⟩ := H
        refine fx_if_eq (t := 42) (n := 40) d_MO_put_37 hz27 (fun z28 => ?_) (fun z28 => ?_)
        · replace H := H.1 z28
          refine fx_aload_n (i := 0) d_MO_put_42 rfl rfl ?_
          refine fx_getR (q := 33) d_MO_put_43 lk_MO_20 (at_31 (h := _) hS24) rfl rfl ?_
          refine fx_iload_n (i := 1) d_MO_put_46 rfl rfl ?_
          obtain ⟨hn29, H⟩ := H
          obtain ⟨hn30, H⟩ := H
          refine fx_iald d_MO_put_47 (at_33 (h := _) hS24) hn29 hn30 (by decide) ?_
          refine fx_istore_n (i := 3) (ls2 := [some (.ref 31), some (.int (zI x)), some (.int (zI y)), some (.int (zI (h24.2.2.1 33 (x.toNat))))]) d_MO_put_48 rfl (by decide) rfl ?_
          refine fx_aload_n (i := 0) d_MO_put_49 rfl rfl ?_
          refine fx_getR (q := 33) d_MO_put_50 lk_MO_20 (at_31 (h := _) hS24) rfl rfl ?_
          refine fx_iload_n (i := 1) d_MO_put_53 rfl rfl ?_
          refine fx_iload_n (i := 2) d_MO_put_54 rfl rfl ?_
          obtain ⟨hn31, H⟩ := H
          obtain ⟨hn32, H⟩ := H
          refine fx_iast d_MO_put_55 (at_33 (h := _) hS24) hn31 hn32 (by decide) ?_
          refine fx_iload_n (i := 3) d_MO_put_56 rfl rfl ?_
          exact fx_end (some (.int (zI (h24.2.2.1 33 (x.toNat))))) ⟨⟨_, rfl, rfl⟩, d_MO_put_57⟩ (Nat.le_refl _) (Nat.le_refl _) rfl H
        · replace H := H.2 z28
          refine fx_iconst d_MO_put_40 ?_
          exact fx_end (some (.int (zI 0))) ⟨⟨_, rfl, rfl⟩, d_MO_put_41⟩ (Nat.le_refl _) (Nat.le_refl _) rfl H
  · replace H := H.2 z2
    refine fx_iload_n (i := 1) d_MO_put_5 rfl rfl ?_
    refine fx_aload_n (i := 0) d_MO_put_6 rfl rfl ?_
    refine fx_getI d_MO_put_7 lk_MO_105 (at_31 (h := _) hS) rfl ?_
    obtain ⟨hz33, H⟩ := H
    refine fx_icmp_lt (t := 17) (n := 13) d_MO_put_10 hz1 hz33 (fun z34 => ?_) (fun z34 => ?_)
    · replace H := H.1 z34
      refine fx_iconst d_MO_put_17 ?_
      refine fx_iload_n (i := 2) d_MO_put_18 rfl rfl ?_
      obtain ⟨hz35, H⟩ := H
      refine fx_if_lt (t := 29) (n := 22) d_MO_put_19 hz35 (fun z36 => ?_) (fun z36 => ?_)
      · replace H := H.1 z36
        refine fx_iconst d_MO_put_29 ?_
        refine fx_goto (n := 34) d_MO_put_30 ?_
        refine fx_callV (M' := M_MO_refused) (B' := (0, 0)) (vs := [.int (zI 0), .int (zI 1)]) (rest := []) (c1 := 0) (s1 := 0) (n := 37) d_MO_put_34 ca_MO_put_93 (at_31 (h := _) hS) rfl rfl rfl ⟨by decide, by decide⟩ (Nat.le_of_ble_eq_true rfl) (Or.inl rfl) (fx_Mt.mono H fun v h37 hv => ?_)
        obtain ⟨r39, rfl, e38, H⟩ := hv
        have hS37 := e38.trans hS
        show fx_V l M_MO_put (0, 0) Q 0 0 37 [some (.ref 31), some (.int (zI x)), some (.int (zI y)), none] [.int (zI r39)] h37
        obtain ⟨hz40, H⟩ := H
        refine fx_if_eq (t := 42) (n := 40) d_MO_put_37 hz40 (fun z41 => ?_) (fun z41 => ?_)
        · replace H := H.1 z41
          refine fx_aload_n (i := 0) d_MO_put_42 rfl rfl ?_
          refine fx_getR (q := 33) d_MO_put_43 lk_MO_20 (at_31 (h := _) hS37) rfl rfl ?_
          refine fx_iload_n (i := 1) d_MO_put_46 rfl rfl ?_
          obtain ⟨hn42, H⟩ := H
          obtain ⟨hn43, H⟩ := H
          refine fx_iald d_MO_put_47 (at_33 (h := _) hS37) hn42 hn43 (by decide) ?_
          refine fx_istore_n (i := 3) (ls2 := [some (.ref 31), some (.int (zI x)), some (.int (zI y)), some (.int (zI (h37.2.2.1 33 (x.toNat))))]) d_MO_put_48 rfl (by decide) rfl ?_
          refine fx_aload_n (i := 0) d_MO_put_49 rfl rfl ?_
          refine fx_getR (q := 33) d_MO_put_50 lk_MO_20 (at_31 (h := _) hS37) rfl rfl ?_
          refine fx_iload_n (i := 1) d_MO_put_53 rfl rfl ?_
          refine fx_iload_n (i := 2) d_MO_put_54 rfl rfl ?_
          obtain ⟨hn44, H⟩ := H
          obtain ⟨hn45, H⟩ := H
          refine fx_iast d_MO_put_55 (at_33 (h := _) hS37) hn44 hn45 (by decide) ?_
          refine fx_iload_n (i := 3) d_MO_put_56 rfl rfl ?_
          exact fx_end (some (.int (zI (h37.2.2.1 33 (x.toNat))))) ⟨⟨_, rfl, rfl⟩, d_MO_put_57⟩ (Nat.le_refl _) (Nat.le_refl _) rfl H
        · replace H := H.2 z41
          refine fx_iconst d_MO_put_40 ?_
          exact fx_end (some (.int (zI 0))) ⟨⟨_, rfl, rfl⟩, d_MO_put_41⟩ (Nat.le_refl _) (Nat.le_refl _) rfl H
      · replace H := H.2 z36
        refine fx_iload_n (i := 2) d_MO_put_22 rfl rfl ?_
        refine fx_sipush (v := 255) d_MO_put_23 rfl ?_
        refine fx_icmp_le (t := 33) (n := 29) d_MO_put_26 hz35 (show zR 255 by decide) (fun z46 => ?_) (fun z46 => ?_)
        · replace H := H.1 z46
          refine fx_iconst d_MO_put_33 ?_
          refine fx_callV (M' := M_MO_refused) (B' := (0, 0)) (vs := [.int (zI 0), .int (zI 0)]) (rest := []) (c1 := 0) (s1 := 0) (n := 37) d_MO_put_34 ca_MO_put_93 (at_31 (h := _) hS) rfl rfl rfl ⟨by decide, by decide⟩ (Nat.le_of_ble_eq_true rfl) (Or.inl rfl) (fx_Mt.mono H fun v h47 hv => ?_)
          obtain ⟨r49, rfl, e48, H⟩ := hv
          have hS47 := e48.trans hS
          show fx_V l M_MO_put (0, 0) Q 0 0 37 [some (.ref 31), some (.int (zI x)), some (.int (zI y)), none] [.int (zI r49)] h47
          obtain ⟨hz50, H⟩ := H
          refine fx_if_eq (t := 42) (n := 40) d_MO_put_37 hz50 (fun z51 => ?_) (fun z51 => ?_)
          · replace H := H.1 z51
            refine fx_aload_n (i := 0) d_MO_put_42 rfl rfl ?_
            refine fx_getR (q := 33) d_MO_put_43 lk_MO_20 (at_31 (h := _) hS47) rfl rfl ?_
            refine fx_iload_n (i := 1) d_MO_put_46 rfl rfl ?_
            obtain ⟨hn52, H⟩ := H
            obtain ⟨hn53, H⟩ := H
            refine fx_iald d_MO_put_47 (at_33 (h := _) hS47) hn52 hn53 (by decide) ?_
            refine fx_istore_n (i := 3) (ls2 := [some (.ref 31), some (.int (zI x)), some (.int (zI y)), some (.int (zI (h47.2.2.1 33 (x.toNat))))]) d_MO_put_48 rfl (by decide) rfl ?_
            refine fx_aload_n (i := 0) d_MO_put_49 rfl rfl ?_
            refine fx_getR (q := 33) d_MO_put_50 lk_MO_20 (at_31 (h := _) hS47) rfl rfl ?_
            refine fx_iload_n (i := 1) d_MO_put_53 rfl rfl ?_
            refine fx_iload_n (i := 2) d_MO_put_54 rfl rfl ?_
            obtain ⟨hn54, H⟩ := H
            obtain ⟨hn55, H⟩ := H
            refine fx_iast d_MO_put_55 (at_33 (h := _) hS47) hn54 hn55 (by decide) ?_
            refine fx_iload_n (i := 3) d_MO_put_56 rfl rfl ?_
            exact fx_end (some (.int (zI (h47.2.2.1 33 (x.toNat))))) ⟨⟨_, rfl, rfl⟩, d_MO_put_57⟩ (Nat.le_refl _) (Nat.le_refl _) rfl H
          · replace H := H.2 z51
            refine fx_iconst d_MO_put_40 ?_
            exact fx_end (some (.int (zI 0))) ⟨⟨_, rfl, rfl⟩, d_MO_put_41⟩ (Nat.le_refl _) (Nat.le_refl _) rfl H
        · replace H := H.2 z46
          refine fx_iconst d_MO_put_29 ?_
          refine fx_goto (n := 34) d_MO_put_30 ?_
          refine fx_callV (M' := M_MO_refused) (B' := (0, 0)) (vs := [.int (zI 0), .int (zI 1)]) (rest := []) (c1 := 0) (s1 := 0) (n := 37) d_MO_put_34 ca_MO_put_93 (at_31 (h := _) hS) rfl rfl rfl ⟨by decide, by decide⟩ (Nat.le_of_ble_eq_true rfl) (Or.inl rfl) (fx_Mt.mono H fun v h56 hv => ?_)
          obtain ⟨r58, rfl, e57, H⟩ := hv
          have hS56 := e57.trans hS
          show fx_V l M_MO_put (0, 0) Q 0 0 37 [some (.ref 31), some (.int (zI x)), some (.int (zI y)), none] [.int (zI r58)] h56
          obtain ⟨hz59, H⟩ := H
          refine fx_if_eq (t := 42) (n := 40) d_MO_put_37 hz59 (fun z60 => ?_) (fun z60 => ?_)
          · replace H := H.1 z60
            refine fx_aload_n (i := 0) d_MO_put_42 rfl rfl ?_
            refine fx_getR (q := 33) d_MO_put_43 lk_MO_20 (at_31 (h := _) hS56) rfl rfl ?_
            refine fx_iload_n (i := 1) d_MO_put_46 rfl rfl ?_
            obtain ⟨hn61, H⟩ := H
            obtain ⟨hn62, H⟩ := H
            refine fx_iald d_MO_put_47 (at_33 (h := _) hS56) hn61 hn62 (by decide) ?_
            refine fx_istore_n (i := 3) (ls2 := [some (.ref 31), some (.int (zI x)), some (.int (zI y)), some (.int (zI (h56.2.2.1 33 (x.toNat))))]) d_MO_put_48 rfl (by decide) rfl ?_
            refine fx_aload_n (i := 0) d_MO_put_49 rfl rfl ?_
            refine fx_getR (q := 33) d_MO_put_50 lk_MO_20 (at_31 (h := _) hS56) rfl rfl ?_
            refine fx_iload_n (i := 1) d_MO_put_53 rfl rfl ?_
            refine fx_iload_n (i := 2) d_MO_put_54 rfl rfl ?_
            obtain ⟨hn63, H⟩ := H
            obtain ⟨hn64, H⟩ := H
            refine fx_iast d_MO_put_55 (at_33 (h := _) hS56) hn63 hn64 (by decide) ?_
            refine fx_iload_n (i := 3) d_MO_put_56 rfl rfl ?_
            exact fx_end (some (.int (zI (h56.2.2.1 33 (x.toNat))))) ⟨⟨_, rfl, rfl⟩, d_MO_put_57⟩ (Nat.le_refl _) (Nat.le_refl _) rfl H
          · replace H := H.2 z60
            refine fx_iconst d_MO_put_40 ?_
            exact fx_end (some (.int (zI 0))) ⟨⟨_, rfl, rfl⟩, d_MO_put_41⟩ (Nat.le_refl _) (Nat.le_refl _) rfl H
    · replace H := H.2 z34
      refine fx_iconst d_MO_put_13 ?_
      refine fx_goto (n := 18) d_MO_put_14 ?_
      refine fx_iload_n (i := 2) d_MO_put_18 rfl rfl ?_
      obtain ⟨hz65, H⟩ := H
      refine fx_if_lt (t := 29) (n := 22) d_MO_put_19 hz65 (fun z66 => ?_) (fun z66 => ?_)
      · replace H := H.1 z66
        refine fx_iconst d_MO_put_29 ?_
        refine fx_goto (n := 34) d_MO_put_30 ?_
        refine fx_callV (M' := M_MO_refused) (B' := (0, 0)) (vs := [.int (zI 1), .int (zI 1)]) (rest := []) (c1 := 0) (s1 := 0) (n := 37) d_MO_put_34 ca_MO_put_93 (at_31 (h := _) hS) rfl rfl rfl ⟨by decide, by decide⟩ (Nat.le_of_ble_eq_true rfl) (Or.inl rfl) (fx_Mt.mono H fun v h67 hv => ?_)
        obtain ⟨r69, rfl, e68, H⟩ := hv
        have hS67 := e68.trans hS
        show fx_V l M_MO_put (0, 0) Q 0 0 37 [some (.ref 31), some (.int (zI x)), some (.int (zI y)), none] [.int (zI r69)] h67
        obtain ⟨hz70, H⟩ := H
        refine fx_if_eq (t := 42) (n := 40) d_MO_put_37 hz70 (fun z71 => ?_) (fun z71 => ?_)
        · replace H := H.1 z71
          refine fx_aload_n (i := 0) d_MO_put_42 rfl rfl ?_
          refine fx_getR (q := 33) d_MO_put_43 lk_MO_20 (at_31 (h := _) hS67) rfl rfl ?_
          refine fx_iload_n (i := 1) d_MO_put_46 rfl rfl ?_
          obtain ⟨hn72, H⟩ := H
          obtain ⟨hn73, H⟩ := H
          refine fx_iald d_MO_put_47 (at_33 (h := _) hS67) hn72 hn73 (by decide) ?_
          refine fx_istore_n (i := 3) (ls2 := [some (.ref 31), some (.int (zI x)), some (.int (zI y)), some (.int (zI (h67.2.2.1 33 (x.toNat))))]) d_MO_put_48 rfl (by decide) rfl ?_
          refine fx_aload_n (i := 0) d_MO_put_49 rfl rfl ?_
          refine fx_getR (q := 33) d_MO_put_50 lk_MO_20 (at_31 (h := _) hS67) rfl rfl ?_
          refine fx_iload_n (i := 1) d_MO_put_53 rfl rfl ?_
          refine fx_iload_n (i := 2) d_MO_put_54 rfl rfl ?_
          obtain ⟨hn74, H⟩ := H
          obtain ⟨hn75, H⟩ := H
          refine fx_iast d_MO_put_55 (at_33 (h := _) hS67) hn74 hn75 (by decide) ?_
          refine fx_iload_n (i := 3) d_MO_put_56 rfl rfl ?_
          exact fx_end (some (.int (zI (h67.2.2.1 33 (x.toNat))))) ⟨⟨_, rfl, rfl⟩, d_MO_put_57⟩ (Nat.le_refl _) (Nat.le_refl _) rfl H
        · replace H := H.2 z71
          refine fx_iconst d_MO_put_40 ?_
          exact fx_end (some (.int (zI 0))) ⟨⟨_, rfl, rfl⟩, d_MO_put_41⟩ (Nat.le_refl _) (Nat.le_refl _) rfl H
      · replace H := H.2 z66
        refine fx_iload_n (i := 2) d_MO_put_22 rfl rfl ?_
        refine fx_sipush (v := 255) d_MO_put_23 rfl ?_
        refine fx_icmp_le (t := 33) (n := 29) d_MO_put_26 hz65 (show zR 255 by decide) (fun z76 => ?_) (fun z76 => ?_)
        · replace H := H.1 z76
          refine fx_iconst d_MO_put_33 ?_
          refine fx_callV (M' := M_MO_refused) (B' := (0, 0)) (vs := [.int (zI 1), .int (zI 0)]) (rest := []) (c1 := 0) (s1 := 0) (n := 37) d_MO_put_34 ca_MO_put_93 (at_31 (h := _) hS) rfl rfl rfl ⟨by decide, by decide⟩ (Nat.le_of_ble_eq_true rfl) (Or.inl rfl) (fx_Mt.mono H fun v h77 hv => ?_)
          obtain ⟨r79, rfl, e78, H⟩ := hv
          have hS77 := e78.trans hS
          show fx_V l M_MO_put (0, 0) Q 0 0 37 [some (.ref 31), some (.int (zI x)), some (.int (zI y)), none] [.int (zI r79)] h77
          obtain ⟨hz80, H⟩ := H
          refine fx_if_eq (t := 42) (n := 40) d_MO_put_37 hz80 (fun z81 => ?_) (fun z81 => ?_)
          · replace H := H.1 z81
            refine fx_aload_n (i := 0) d_MO_put_42 rfl rfl ?_
            refine fx_getR (q := 33) d_MO_put_43 lk_MO_20 (at_31 (h := _) hS77) rfl rfl ?_
            refine fx_iload_n (i := 1) d_MO_put_46 rfl rfl ?_
            obtain ⟨hn82, H⟩ := H
            obtain ⟨hn83, H⟩ := H
            refine fx_iald d_MO_put_47 (at_33 (h := _) hS77) hn82 hn83 (by decide) ?_
            refine fx_istore_n (i := 3) (ls2 := [some (.ref 31), some (.int (zI x)), some (.int (zI y)), some (.int (zI (h77.2.2.1 33 (x.toNat))))]) d_MO_put_48 rfl (by decide) rfl ?_
            refine fx_aload_n (i := 0) d_MO_put_49 rfl rfl ?_
            refine fx_getR (q := 33) d_MO_put_50 lk_MO_20 (at_31 (h := _) hS77) rfl rfl ?_
            refine fx_iload_n (i := 1) d_MO_put_53 rfl rfl ?_
            refine fx_iload_n (i := 2) d_MO_put_54 rfl rfl ?_
            obtain ⟨hn84, H⟩ := H
            obtain ⟨hn85, H⟩ := H
            refine fx_iast d_MO_put_55 (at_33 (h := _) hS77) hn84 hn85 (by decide) ?_
            refine fx_iload_n (i := 3) d_MO_put_56 rfl rfl ?_
            exact fx_end (some (.int (zI (h77.2.2.1 33 (x.toNat))))) ⟨⟨_, rfl, rfl⟩, d_MO_put_57⟩ (Nat.le_refl _) (Nat.le_refl _) rfl H
          · replace H := H.2 z81
            refine fx_iconst d_MO_put_40 ?_
            exact fx_end (some (.int (zI 0))) ⟨⟨_, rfl, rfl⟩, d_MO_put_41⟩ (Nat.le_refl _) (Nat.le_refl _) rfl H
        · replace H := H.2 z76
          refine fx_iconst d_MO_put_29 ?_
          refine fx_goto (n := 34) d_MO_put_30 ?_
          refine fx_callV (M' := M_MO_refused) (B' := (0, 0)) (vs := [.int (zI 1), .int (zI 1)]) (rest := []) (c1 := 0) (s1 := 0) (n := 37) d_MO_put_34 ca_MO_put_93 (at_31 (h := _) hS) rfl rfl rfl ⟨by decide, by decide⟩ (Nat.le_of_ble_eq_true rfl) (Or.inl rfl) (fx_Mt.mono H fun v h86 hv => ?_)
          obtain ⟨r88, rfl, e87, H⟩ := hv
          have hS86 := e87.trans hS
          show fx_V l M_MO_put (0, 0) Q 0 0 37 [some (.ref 31), some (.int (zI x)), some (.int (zI y)), none] [.int (zI r88)] h86
          obtain ⟨hz89, H⟩ := H
          refine fx_if_eq (t := 42) (n := 40) d_MO_put_37 hz89 (fun z90 => ?_) (fun z90 => ?_)
          · replace H := H.1 z90
            refine fx_aload_n (i := 0) d_MO_put_42 rfl rfl ?_
            refine fx_getR (q := 33) d_MO_put_43 lk_MO_20 (at_31 (h := _) hS86) rfl rfl ?_
            refine fx_iload_n (i := 1) d_MO_put_46 rfl rfl ?_
            obtain ⟨hn91, H⟩ := H
            obtain ⟨hn92, H⟩ := H
            refine fx_iald d_MO_put_47 (at_33 (h := _) hS86) hn91 hn92 (by decide) ?_
            refine fx_istore_n (i := 3) (ls2 := [some (.ref 31), some (.int (zI x)), some (.int (zI y)), some (.int (zI (h86.2.2.1 33 (x.toNat))))]) d_MO_put_48 rfl (by decide) rfl ?_
            refine fx_aload_n (i := 0) d_MO_put_49 rfl rfl ?_
            refine fx_getR (q := 33) d_MO_put_50 lk_MO_20 (at_31 (h := _) hS86) rfl rfl ?_
            refine fx_iload_n (i := 1) d_MO_put_53 rfl rfl ?_
            refine fx_iload_n (i := 2) d_MO_put_54 rfl rfl ?_
            obtain ⟨hn93, H⟩ := H
            obtain ⟨hn94, H⟩ := H
            refine fx_iast d_MO_put_55 (at_33 (h := _) hS86) hn93 hn94 (by decide) ?_
            refine fx_iload_n (i := 3) d_MO_put_56 rfl rfl ?_
            exact fx_end (some (.int (zI (h86.2.2.1 33 (x.toNat))))) ⟨⟨_, rfl, rfl⟩, d_MO_put_57⟩ (Nat.le_refl _) (Nat.le_refl _) rfl H
          · replace H := H.2 z90
            refine fx_iconst d_MO_put_40 ?_
            exact fx_end (some (.int (zI 0))) ⟨⟨_, rfl, rfl⟩, d_MO_put_41⟩ (Nat.le_refl _) (Nat.le_refl _) rfl H

set_option maxRecDepth 100000 in
set_option maxHeartbeats 4000000 in
theorem e_MO_add {l : Launch} {Q : Option Value → fx_H → Prop} {h : fx_H}  {x : Int}  {a : Nat → Nat} {pp dd : Nat} (hS : h.1 = fx_S0 a pp dd) 
    (H : zR x ∧ ((x < 0 → Q (some (.int (zI 0))) (fx_uF h 31 0 0)) ∧ (¬ (x < 0) → ((255 < x → Q (some (.int (zI 0))) (fx_uF h 31 0 0)) ∧ (¬ (255 < x) → zR (h.2.1 31 5) ∧ ((¬ (h.2.1 31 5) = 2000 → 0 ≤ (h.2.1 31 5) ∧ (h.2.1 31 5) < 2000 ∧ Q (some (.int (zI 1))) (fx_uF (fx_uA (fx_uF h 31 0 0) 33 ((h.2.1 31 5).toNat) x) 31 5 ((h.2.1 31 5) + 1))) ∧ ((h.2.1 31 5) = 2000 → Q (some (.int (zI 0))) (fx_uF h 31 0 0)))))))) :
    fx_Mt l M_MO_add (0, 0) [.ref 31, .int (zI x)] h Q := by
  refine fx_entry (ls := [some (.ref 31), some (.int (zI x))]) (by decide) (Nat.le_of_ble_eq_true rfl) rfl ?_
  refine fx_aload_n (i := 0) d_MO_add_0 rfl rfl ?_
  refine fx_iconst d_MO_add_1 ?_
  refine fx_putI d_MO_add_2 lk_MO_80 (at_31 (h := _) hS) rfl rfl rfl ?_
  refine fx_iload_n (i := 1) d_MO_add_5 rfl rfl ?_
  obtain ⟨hz1, H⟩ := H
  refine fx_if_lt (t := 26) (n := 9) d_MO_add_6 hz1 (fun z2 => ?_) (fun z2 => ?_)
  · replace H := H.1 z2
    refine fx_iconst d_MO_add_26 ?_
    exact fx_end (some (.int (zI 0))) ⟨⟨_, rfl, rfl⟩, d_MO_add_27⟩ (Nat.le_refl _) (Nat.le_refl _) rfl H
  · replace H := H.2 z2
    refine fx_iload_n (i := 1) d_MO_add_9 rfl rfl ?_
    refine fx_sipush (v := 255) d_MO_add_10 rfl ?_
    refine fx_icmp_gt (t := 26) (n := 16) d_MO_add_13 hz1 (show zR 255 by decide) (fun z3 => ?_) (fun z3 => ?_)
    · replace H := H.1 z3
      refine fx_iconst d_MO_add_26 ?_
      exact fx_end (some (.int (zI 0))) ⟨⟨_, rfl, rfl⟩, d_MO_add_27⟩ (Nat.le_refl _) (Nat.le_refl _) rfl H
    · replace H := H.2 z3
      refine fx_aload_n (i := 0) d_MO_add_16 rfl rfl ?_
      refine fx_getI d_MO_add_17 lk_MO_105 (at_31 (h := _) hS) rfl ?_
      refine fx_sipush (v := 2000) d_MO_add_20 rfl ?_
      obtain ⟨hz4, H⟩ := H
      refine fx_icmp_ne (t := 28) (n := 26) d_MO_add_23 hz4 (show zR 2000 by decide) (fun z5 => ?_) (fun z5 => ?_)
      · replace H := H.1 z5
        refine fx_aload_n (i := 0) d_MO_add_28 rfl rfl ?_
        refine fx_getR (q := 33) d_MO_add_29 lk_MO_20 (at_31 (h := _) hS) rfl rfl ?_
        refine fx_aload_n (i := 0) d_MO_add_32 rfl rfl ?_
        refine fx_getI d_MO_add_33 lk_MO_105 (at_31 (h := _) hS) rfl ?_
        refine fx_iload_n (i := 1) d_MO_add_36 rfl rfl ?_
        obtain ⟨hn6, H⟩ := H
        obtain ⟨hn7, H⟩ := H
        refine fx_iast d_MO_add_37 (at_33 (h := _) hS) hn6 hn7 (by decide) ?_
        refine fx_aload_n (i := 0) d_MO_add_38 rfl rfl ?_
        refine fx_dup d_MO_add_39 rfl ?_
        refine fx_getI d_MO_add_40 lk_MO_105 (at_31 (h := _) hS) rfl ?_
        refine fx_iconst d_MO_add_43 ?_
        refine fx_iadd d_MO_add_44 ?_
        refine fx_putI d_MO_add_45 lk_MO_105 (at_31 (h := _) hS) rfl rfl rfl ?_
        refine fx_iconst d_MO_add_48 ?_
        exact fx_end (some (.int (zI 1))) ⟨⟨_, rfl, rfl⟩, d_MO_add_49⟩ (Nat.le_refl _) (Nat.le_refl _) rfl H
      · replace H := H.2 z5
        refine fx_iconst d_MO_add_26 ?_
        exact fx_end (some (.int (zI 0))) ⟨⟨_, rfl, rfl⟩, d_MO_add_27⟩ (Nat.le_refl _) (Nat.le_refl _) rfl H

set_option maxRecDepth 100000 in
set_option maxHeartbeats 4000000 in
theorem e_MO_cut {l : Launch} {Q : Option Value → fx_H → Prop} {h : fx_H}  {x : Int}  {a : Nat → Nat} {pp dd : Nat} (hS : h.1 = fx_S0 a pp dd) 
    (H : zR x ∧ ((0 ≤ x → fx_Mt l M_MO_refused (0, 0) [.ref 31, .int (zI 0), .int (zI 0)] h (fun v h3 => ∃ r5 : Int, v = some (.int (zI r5)) ∧ h3.1 = h.1 ∧ zR r5 ∧ ((r5 = 0 → zR (h3.2.1 31 5) ∧ (((h3.2.1 31 5) ≤ x → Q (some (.int (zI 0))) (fx_uF h3 31 5 ((h3.2.1 31 5) - 0))) ∧ (¬ ((h3.2.1 31 5) ≤ x) → Q (some (.int (zI ((h3.2.1 31 5) - x)))) (fx_uF h3 31 5 ((h3.2.1 31 5) - ((h3.2.1 31 5) - x)))))) ∧ (¬ (r5 = 0) → Q (some (.int (zI 0))) h3)))) ∧ (¬ (0 ≤ x) → fx_Mt l M_MO_refused (0, 0) [.ref 31, .int (zI 1), .int (zI 0)] h (fun v h10 => ∃ r12 : Int, v = some (.int (zI r12)) ∧ h10.1 = h.1 ∧ zR r12 ∧ ((r12 = 0 → zR (h10.2.1 31 5) ∧ (((h10.2.1 31 5) ≤ x → Q (some (.int (zI 0))) (fx_uF h10 31 5 ((h10.2.1 31 5) - 0))) ∧ (¬ ((h10.2.1 31 5) ≤ x) → Q (some (.int (zI ((h10.2.1 31 5) - x)))) (fx_uF h10 31 5 ((h10.2.1 31 5) - ((h10.2.1 31 5) - x)))))) ∧ (¬ (r12 = 0) → Q (some (.int (zI 0))) h10)))))) :
    fx_Mt l M_MO_cut (0, 0) [.ref 31, .int (zI x)] h Q := by
  refine fx_entry (ls := [some (.ref 31), some (.int (zI x)), none]) (by decide) (Nat.le_of_ble_eq_true rfl) rfl ?_
  refine fx_aload_n (i := 0) d_MO_cut_0 rfl rfl ?_
  refine fx_iload_n (i := 1) d_MO_cut_1 rfl rfl ?_
  obtain ⟨hz1, H⟩ := H
  refine fx_if_ge (t := 9) (n := 5) d_MO_cut_2 hz1 (fun z2 => ?_) (fun z2 => ?_)
  · replace H := H.1 z2
    refine fx_iconst d_MO_cut_9 ?_
    refine fx_iconst d_MO_cut_10 ?_
    refine fx_callV (M' := M_MO_refused) (B' := (0, 0)) (vs := [.int (zI 0), .int (zI 0)]) (rest := []) (c1 := 0) (s1 := 0) (n := 14) d_MO_cut_11 ca_MO_cut_93 (at_31 (h := _) hS) rfl rfl rfl ⟨by decide, by decide⟩ (Nat.le_of_ble_eq_true rfl) (Or.inl rfl) (fx_Mt.mono H fun v h3 hv => ?_)
    obtain ⟨r5, rfl, e4, H⟩ := hv
    have hS3 := e4.trans hS
    show fx_V l M_MO_cut (0, 0) Q 0 0 14 [some (.ref 31), some (.int (zI x)), none] [.int (zI r5)] h3
    obtain ⟨hz6, H⟩ := H
    refine fx_if_eq (t := 19) (n := 17) d_MO_cut_14 hz6 (fun z7 => ?_) (fun z7 => ?_)
    · replace H := H.1 z7
      refine fx_aload_n (i := 0) d_MO_cut_19 rfl rfl ?_
      refine fx_getI d_MO_cut_20 lk_MO_105 (at_31 (h := _) hS3) rfl ?_
      refine fx_iload_n (i := 1) d_MO_cut_23 rfl rfl ?_
      obtain ⟨hz8, H⟩ := H
      refine fx_icmp_le (t := 36) (n := 27) d_MO_cut_24 hz8 hz1 (fun z9 => ?_) (fun z9 => ?_)
      · replace H := H.1 z9
        refine fx_iconst d_MO_cut_36 ?_
        refine fx_istore_n (i := 2) (ls2 := [some (.ref 31), some (.int (zI x)), some (.int (zI 0))]) d_MO_cut_37 rfl (by decide) rfl ?_
        refine fx_aload_n (i := 0) d_MO_cut_38 rfl rfl ?_
        refine fx_aload_n (i := 0) d_MO_cut_39 rfl rfl ?_
        refine fx_getI d_MO_cut_40 lk_MO_105 (at_31 (h := _) hS3) rfl ?_
        refine fx_iload_n (i := 2) d_MO_cut_43 rfl rfl ?_
        refine fx_isub d_MO_cut_44 ?_
        refine fx_putI d_MO_cut_45 lk_MO_105 (at_31 (h := _) hS3) rfl rfl rfl ?_
        refine fx_iload_n (i := 2) d_MO_cut_48 rfl rfl ?_
        exact fx_end (some (.int (zI 0))) ⟨⟨_, rfl, rfl⟩, d_MO_cut_49⟩ (Nat.le_refl _) (Nat.le_refl _) rfl H
      · replace H := H.2 z9
        refine fx_aload_n (i := 0) d_MO_cut_27 rfl rfl ?_
        refine fx_getI d_MO_cut_28 lk_MO_105 (at_31 (h := _) hS3) rfl ?_
        refine fx_iload_n (i := 1) d_MO_cut_31 rfl rfl ?_
        refine fx_isub d_MO_cut_32 ?_
        refine fx_goto (n := 37) d_MO_cut_33 ?_
        refine fx_istore_n (i := 2) (ls2 := [some (.ref 31), some (.int (zI x)), some (.int (zI ((h3.2.1 31 5) - x)))]) d_MO_cut_37 rfl (by decide) rfl ?_
        refine fx_aload_n (i := 0) d_MO_cut_38 rfl rfl ?_
        refine fx_aload_n (i := 0) d_MO_cut_39 rfl rfl ?_
        refine fx_getI d_MO_cut_40 lk_MO_105 (at_31 (h := _) hS3) rfl ?_
        refine fx_iload_n (i := 2) d_MO_cut_43 rfl rfl ?_
        refine fx_isub d_MO_cut_44 ?_
        refine fx_putI d_MO_cut_45 lk_MO_105 (at_31 (h := _) hS3) rfl rfl rfl ?_
        refine fx_iload_n (i := 2) d_MO_cut_48 rfl rfl ?_
        exact fx_end (some (.int (zI ((h3.2.1 31 5) - x)))) ⟨⟨_, rfl, rfl⟩, d_MO_cut_49⟩ (Nat.le_refl _) (Nat.le_refl _) rfl H
    · replace H := H.2 z7
      refine fx_iconst d_MO_cut_17 ?_
      exact fx_end (some (.int (zI 0))) ⟨⟨_, rfl, rfl⟩, d_MO_cut_18⟩ (Nat.le_refl _) (Nat.le_refl _) rfl H
  · replace H := H.2 z2
    refine fx_iconst d_MO_cut_5 ?_
    refine fx_goto (n := 10) d_MO_cut_6 ?_
    refine fx_iconst d_MO_cut_10 ?_
    refine fx_callV (M' := M_MO_refused) (B' := (0, 0)) (vs := [.int (zI 1), .int (zI 0)]) (rest := []) (c1 := 0) (s1 := 0) (n := 14) d_MO_cut_11 ca_MO_cut_93 (at_31 (h := _) hS) rfl rfl rfl ⟨by decide, by decide⟩ (Nat.le_of_ble_eq_true rfl) (Or.inl rfl) (fx_Mt.mono H fun v h10 hv => ?_)
    obtain ⟨r12, rfl, e11, H⟩ := hv
    have hS10 := e11.trans hS
    show fx_V l M_MO_cut (0, 0) Q 0 0 14 [some (.ref 31), some (.int (zI x)), none] [.int (zI r12)] h10
    obtain ⟨hz13, H⟩ := H
    refine fx_if_eq (t := 19) (n := 17) d_MO_cut_14 hz13 (fun z14 => ?_) (fun z14 => ?_)
    · replace H := H.1 z14
      refine fx_aload_n (i := 0) d_MO_cut_19 rfl rfl ?_
      refine fx_getI d_MO_cut_20 lk_MO_105 (at_31 (h := _) hS10) rfl ?_
      refine fx_iload_n (i := 1) d_MO_cut_23 rfl rfl ?_
      obtain ⟨hz15, H⟩ := H
      refine fx_icmp_le (t := 36) (n := 27) d_MO_cut_24 hz15 hz1 (fun z16 => ?_) (fun z16 => ?_)
      · replace H := H.1 z16
        refine fx_iconst d_MO_cut_36 ?_
        refine fx_istore_n (i := 2) (ls2 := [some (.ref 31), some (.int (zI x)), some (.int (zI 0))]) d_MO_cut_37 rfl (by decide) rfl ?_
        refine fx_aload_n (i := 0) d_MO_cut_38 rfl rfl ?_
        refine fx_aload_n (i := 0) d_MO_cut_39 rfl rfl ?_
        refine fx_getI d_MO_cut_40 lk_MO_105 (at_31 (h := _) hS10) rfl ?_
        refine fx_iload_n (i := 2) d_MO_cut_43 rfl rfl ?_
        refine fx_isub d_MO_cut_44 ?_
        refine fx_putI d_MO_cut_45 lk_MO_105 (at_31 (h := _) hS10) rfl rfl rfl ?_
        refine fx_iload_n (i := 2) d_MO_cut_48 rfl rfl ?_
        exact fx_end (some (.int (zI 0))) ⟨⟨_, rfl, rfl⟩, d_MO_cut_49⟩ (Nat.le_refl _) (Nat.le_refl _) rfl H
      · replace H := H.2 z16
        refine fx_aload_n (i := 0) d_MO_cut_27 rfl rfl ?_
        refine fx_getI d_MO_cut_28 lk_MO_105 (at_31 (h := _) hS10) rfl ?_
        refine fx_iload_n (i := 1) d_MO_cut_31 rfl rfl ?_
        refine fx_isub d_MO_cut_32 ?_
        refine fx_goto (n := 37) d_MO_cut_33 ?_
        refine fx_istore_n (i := 2) (ls2 := [some (.ref 31), some (.int (zI x)), some (.int (zI ((h10.2.1 31 5) - x)))]) d_MO_cut_37 rfl (by decide) rfl ?_
        refine fx_aload_n (i := 0) d_MO_cut_38 rfl rfl ?_
        refine fx_aload_n (i := 0) d_MO_cut_39 rfl rfl ?_
        refine fx_getI d_MO_cut_40 lk_MO_105 (at_31 (h := _) hS10) rfl ?_
        refine fx_iload_n (i := 2) d_MO_cut_43 rfl rfl ?_
        refine fx_isub d_MO_cut_44 ?_
        refine fx_putI d_MO_cut_45 lk_MO_105 (at_31 (h := _) hS10) rfl rfl rfl ?_
        refine fx_iload_n (i := 2) d_MO_cut_48 rfl rfl ?_
        exact fx_end (some (.int (zI ((h10.2.1 31 5) - x)))) ⟨⟨_, rfl, rfl⟩, d_MO_cut_49⟩ (Nat.le_refl _) (Nat.le_refl _) rfl H
    · replace H := H.2 z14
      refine fx_iconst d_MO_cut_17 ?_
      exact fx_end (some (.int (zI 0))) ⟨⟨_, rfl, rfl⟩, d_MO_cut_18⟩ (Nat.le_refl _) (Nat.le_refl _) rfl H

