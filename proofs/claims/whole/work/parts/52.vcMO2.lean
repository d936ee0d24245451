/-! what is owed of the numbers, by program (wip/printvc.py) -/
set_option maxRecDepth 100000 in
set_option maxHeartbeats 4000000 in
theorem e_MO_number {l : Launch} {Q : Option Value → fx_H → Prop} {h : fx_H}  {x : Int} {y : Int}  {a : Nat → Nat} {pp dd : Nat} (hS : h.1 = fx_S0 a pp dd) 
    (H : (fx_V l M_MO_number (0, 0) Q 0 0 6 [some (.ref 31), some (.long (zL x)), none, some (.int (zI y)), some (.long (zL 0)), none, some (.int (zI 0))] [] h)) :
    fx_Mt l M_MO_number (0, 0) [.ref 31, .long (zL x), .int (zI y)] h Q := by
  refine fx_entry (ls := [some (.ref 31), some (.long (zL x)), none, some (.int (zI y)), none, none, none]) (by decide) (Nat.le_of_ble_eq_true rfl) rfl ?_
  refine fx_lconst (v := 0) d_MO_number_0 rfl ?_
  refine fx_lstore (ls2 := [some (.ref 31), some (.long (zL x)), none, some (.int (zI y)), some (.long (zL 0)), none, none]) d_MO_number_1 (by decide) rfl ?_
  refine fx_iconst d_MO_number_3 ?_
  refine fx_istore (ls2 := [some (.ref 31), some (.long (zL x)), none, some (.int (zI y)), some (.long (zL 0)), none, some (.int (zI 0))]) d_MO_number_4 (by decide) rfl ?_
  exact H

set_option maxRecDepth 100000 in
set_option maxHeartbeats 4000000 in
theorem w_MO_number_6 {l : Launch} {Q : Option Value → fx_H → Prop} {h : fx_H}  {x1 : Int} {x3 : Int} {x4 : Int} {x6 : Int}  {a : Nat → Nat} {pp dd : Nat} (hS : h.1 = fx_S0 a pp dd) 
    (H : zR x6 ∧ zR x3 ∧ ((x3 ≤ x6 → Q (some (.long (zL x4))) h) ∧ (¬ (x3 ≤ x6) → zR (h.2.1 31 5) ∧ zRL (x1 + x3) ∧ zRL (h.2.1 31 5) ∧ ((0 < (zC (x1 + x3) (h.2.1 31 5)) → Q (some (.long (zL x4))) h) ∧ (¬ (0 < (zC (x1 + x3) (h.2.1 31 5))) → zR (h.2.1 31 11) ∧ (((h.2.1 31 11) = 0 → 0 ≤ (x1 + ((x3 - 1) - x6)) ∧ (x1 + ((x3 - 1) - x6)) < 2000 ∧ zR (h.2.2.1 33 ((x1 + ((x3 - 1) - x6)).toNat)) ∧ (fx_V l M_MO_number (0, 0) Q 0 0 6 [some (.ref 31), some (.long (zL x1)), none, some (.int (zI x3)), some (.long (zL ((x4 * 256) + (h.2.2.1 33 ((x1 + ((x3 - 1) - x6)).toNat))))), none, some (.int (zI (x6 + 1)))] [] h)) ∧ (¬ ((h.2.1 31 11) = 0) → 0 ≤ (x1 + x6) ∧ (x1 + x6) < 2000 ∧ zR (h.2.2.1 33 ((x1 + x6).toNat)) ∧ (fx_V l M_MO_number (0, 0) Q 0 0 6 [some (.ref 31), some (.long (zL x1)), none, some (.int (zI x3)), some (.long (zL ((x4 * 256) + (h.2.2.1 33 ((x1 + x6).toNat))))), none, some (.int (zI (x6 + 1)))] [] h)))))))) :
    fx_V l M_MO_number (0, 0) Q 0 0 6 [some (.ref 31), some (.long (zL x1)), none, some (.int (zI x3)), some (.long (zL x4)), none, some (.int (zI x6))] [] h := by
  refine fx_iload d_MO_number_6 rfl ?_
  refine fx_iload_n (i := 3) d_MO_number_8 rfl rfl ?_
  obtain ⟨hz1, H⟩ := H
  obtain ⟨hz2, H⟩ := H
  refine fx_icmp_ge (t := 67) (n := 12) d_MO_number_9 hz1 hz2 (fun z3 => ?_) (fun z3 => ?_)
  · replace H := H.1 z3
    refine fx_lload d_MO_number_67 rfl ?_
    exact fx_end (some (.long (zL x4))) ⟨rfl, d_MO_number_69⟩ (Nat.le_refl _) (Nat.le_refl _) rfl H
  · replace H := H.2 z3
    refine fx_lload_n (i := 1) d_MO_number_12 rfl rfl ?_
    refine fx_iload_n (i := 3) d_MO_number_13 rfl rfl ?_
    refine fx_i2l d_MO_number_14 hz2 ?_
    refine fx_ladd d_MO_number_15 ?_
    refine fx_aload_n (i := 0) d_MO_number_16 rfl rfl ?_
    refine fx_getI d_MO_number_17 lk_MO_105 (at_31 (h := _) hS) rfl ?_
    obtain ⟨hz4, H⟩ := H
    refine fx_i2l d_MO_number_20 hz4 ?_
    obtain ⟨hz5, H⟩ := H
    obtain ⟨hz6, H⟩ := H
    refine fx_lcmp d_MO_number_21 hz5 hz6 ?_
    refine fx_if_gt (t := 67) (n := 25) d_MO_number_22 (zC_R _ _) (fun z7 => ?_) (fun z7 => ?_)
    · replace H := H.1 z7
      refine fx_lload d_MO_number_67 rfl ?_
      exact fx_end (some (.long (zL x4))) ⟨rfl, d_MO_number_69⟩ (Nat.le_refl _) (Nat.le_refl _) rfl H
    · replace H := H.2 z7
      refine fx_lload d_MO_number_25 rfl ?_
      refine fx_ldc2 (v := 256) d_MO_number_27 (fx_in 1169 (by decide +kernel) rfl) ?_
      refine fx_lmul d_MO_number_30 ?_
      refine fx_aload_n (i := 0) d_MO_number_31 rfl rfl ?_
      refine fx_getR (q := 33) d_MO_number_32 lk_MO_20 (at_31 (h := _) hS) rfl rfl ?_
      refine fx_lload_n (i := 1) d_MO_number_35 rfl rfl ?_
      refine fx_l2i d_MO_number_36 ?_
      refine fx_aload_n (i := 0) d_MO_number_37 rfl rfl ?_
      refine fx_getI d_MO_number_38 lk_MO_108 (at_31 (h := _) hS) rfl ?_
      obtain ⟨hz8, H⟩ := H
      refine fx_if_eq (t := 49) (n := 44) d_MO_number_41 hz8 (fun z9 => ?_) (fun z9 => ?_)
      · replace H := H.1 z9
        refine fx_iload_n (i := 3) d_MO_number_49 rfl rfl ?_
        refine fx_iconst d_MO_number_50 ?_
        refine fx_isub d_MO_number_51 ?_
        refine fx_iload d_MO_number_52 rfl ?_
        refine fx_isub d_MO_number_54 ?_
        refine fx_iadd d_MO_number_55 ?_
        obtain ⟨hn10, H⟩ := H
        obtain ⟨hn11, H⟩ := H
        refine fx_iald d_MO_number_56 (at_33 (h := _) hS) hn10 hn11 (by decide) ?_
        obtain ⟨hz12, H⟩ := H
        refine fx_i2l d_MO_number_57 hz12 ?_
        refine fx_ladd d_MO_number_58 ?_
        refine fx_lstore (ls2 := [some (.ref 31), some (.long (zL x1)), none, some (.int (zI x3)), some (.long (zL ((x4 * 256) + (h.2.2.1 33 ((x1 + ((x3 - 1) - x6)).toNat))))), none, some (.int (zI x6))]) d_MO_number_59 (by decide) rfl ?_
        refine fx_iinc (v := x6 + 1) (ls2 := [some (.ref 31), some (.long (zL x1)), none, some (.int (zI x3)), some (.long (zL ((x4 * 256) + (h.2.2.1 33 ((x1 + ((x3 - 1) - x6)).toNat))))), none, some (.int (zI (x6 + 1)))]) d_MO_number_61 rfl rfl (by decide) rfl ?_
        refine fx_goto (n := 6) d_MO_number_64 ?_
        exact H
      · replace H := H.2 z9
        refine fx_iload d_MO_number_44 rfl ?_
        refine fx_goto (n := 55) d_MO_number_46 ?_
        refine fx_iadd d_MO_number_55 ?_
        obtain ⟨hn13, H⟩ := H
        obtain ⟨hn14, H⟩ := H
        refine fx_iald d_MO_number_56 (at_33 (h := _) hS) hn13 hn14 (by decide) ?_
        obtain ⟨hz15, H⟩ := H
        refine fx_i2l d_MO_number_57 hz15 ?_
        refine fx_ladd d_MO_number_58 ?_
        refine fx_lstore (ls2 := [some (.ref 31), some (.long (zL x1)), none, some (.int (zI x3)), some (.long (zL ((x4 * 256) + (h.2.2.1 33 ((x1 + x6).toNat))))), none, some (.int (zI x6))]) d_MO_number_59 (by decide) rfl ?_
        refine fx_iinc (v := x6 + 1) (ls2 := [some (.ref 31), some (.long (zL x1)), none, some (.int (zI x3)), some (.long (zL ((x4 * 256) + (h.2.2.1 33 ((x1 + x6).toNat))))), none, some (.int (zI (x6 + 1)))]) d_MO_number_61 rfl rfl (by decide) rfl ?_
        refine fx_goto (n := 6) d_MO_number_64 ?_
        exact H

set_option maxRecDepth 100000 in
set_option maxHeartbeats 4000000 in
theorem e_MO_takeTags {l : Launch} {Q : Option Value → fx_H → Prop} {h : fx_H}    {a : Nat → Nat} {pp dd : Nat} (hS : h.1 = fx_S0 a pp dd) 
    (H : (fx_V l M_MO_takeTags (0, 0) Q 0 0 2 [some (.ref 31), some (.int (zI 0)), none, none, none, none, none, none, none, none, none] [] h)) :
    fx_Mt l M_MO_takeTags (0, 0) [.ref 31] h Q := by
  refine fx_entry (ls := [some (.ref 31), none, none, none, none, none, none, none, none, none, none]) (by decide) (Nat.le_of_ble_eq_true rfl) rfl ?_
  refine fx_iconst d_MO_takeTags_0 ?_
  refine fx_istore_n (i := 1) (ls2 := [some (.ref 31), some (.int (zI 0)), none, none, none, none, none, none, none, none, none]) d_MO_takeTags_1 rfl (by decide) rfl ?_
  exact H

set_option maxRecDepth 100000 in
set_option maxHeartbeats 4000000 in
theorem w_MO_takeTags_2 {l : Launch} {Q : Option Value → fx_H → Prop} {h : fx_H}  {x1 : Int}  {a : Nat → Nat} {pp dd : Nat} (hS : h.1 = fx_S0 a pp dd) 
    (H : zR x1 ∧ ((9 ≤ x1 → fx_Mt l M_MO_number (0, 0) [.ref 31, .long (zL 4), .int (zI 4)] h (fun v h3 => ∃ r5 : Int, v = some (.long (zL r5)) ∧ h3.1 = h.1 ∧ zR (h3.2.1 31 5) ∧ zRL (r5 + 2) ∧ zRL (h3.2.1 31 5) ∧ (((zC (r5 + 2) (h3.2.1 31 5)) ≤ 0 → fx_Mt l M_MO_number (0, 0) [.ref 31, .long (zL r5), .int (zI 2)] h3 (fun v h10 => ∃ r12 : Int, v = some (.long (zL r12)) ∧ h10.1 = h3.1 ∧ zR r12 ∧ zR (h10.2.1 31 5) ∧ zRL ((r5 + 6) + (12 * r12)) ∧ zRL (h10.2.1 31 5) ∧ ((0 < (zC ((r5 + 6) + (12 * r12)) (h10.2.1 31 5)) → Q (some (.int (zI 0))) h10) ∧ (¬ (0 < (zC ((r5 + 6) + (12 * r12)) (h10.2.1 31 5))) → fx_Mt l M_MO_number (0, 0) [.ref 31, .long (zL ((r5 + 2) + (12 * r12))), .int (zI 4)] h10 (fun v h18 => ∃ r20 : Int, v = some (.long (zL r20)) ∧ h18.1 = h10.1 ∧ zRL r20 ∧ (((zC r20 0) = 0 → (fx_V l M_MO_takeTags (0, 0) Q 0 0 108 [some (.ref 31), some (.long (zL r5)), none, some (.int (zI r12)), some (.int (zI (-1))), some (.int (zI 1)), some (.int (zI 0)), none, none, none, none] [] h18)) ∧ (¬ ((zC r20 0) = 0) → Q (some (.int (zI 0))) h18))))))) ∧ (¬ ((zC (r5 + 2) (h3.2.1 31 5)) ≤ 0) → Q (some (.int (zI 0))) h3)))) ∧ (¬ (9 ≤ x1) → 0 ≤ x1 ∧ x1 < 9 ∧ (fx_V l M_MO_takeTags (0, 0) Q 0 0 2 [some (.ref 31), some (.int (zI (x1 + 1))), none, none, none, none, none, none, none, none, none] [] (fx_uA h 43 (x1.toNat) 0))))) :
    fx_V l M_MO_takeTags (0, 0) Q 0 0 2 [some (.ref 31), some (.int (zI x1)), none, none, none, none, none, none, none, none, none] [] h := by
  refine fx_iload_n (i := 1) d_MO_takeTags_2 rfl rfl ?_
  refine fx_bipush (v := 9) d_MO_takeTags_3 rfl ?_
  obtain ⟨hz1, H⟩ := H
  refine fx_icmp_ge (t := 21) (n := 8) d_MO_takeTags_5 hz1 (show zR 9 by decide) (fun z2 => ?_) (fun z2 => ?_)
  · replace H := H.1 z2
    refine fx_aload_n (i := 0) d_MO_takeTags_21 rfl rfl ?_
    refine fx_ldc2 (v := 4) d_MO_takeTags_22 (fx_in 1054 (by decide +kernel) rfl) ?_
    refine fx_iconst d_MO_takeTags_25 ?_
    refine fx_callV (M' := M_MO_number) (B' := (0, 0)) (vs := [.long (zL 4), .int (zI 4)]) (rest := []) (c1 := 0) (s1 := 0) (n := 29) d_MO_takeTags_26 ca_MO_takeTags_243 (at_31 (h := _) hS) rfl rfl rfl ⟨by decide, by decide⟩ (Nat.le_of_ble_eq_true rfl) (Or.inl rfl) (fx_Mt.mono H fun v h3 hv => ?_)
    obtain ⟨r5, rfl, e4, H⟩ := hv
    have hS3 := e4.trans hS
    show fx_V l M_MO_takeTags (0, 0) Q 0 0 29 [some (.ref 31), some (.int (zI x1)), none, none, none, none, none, none, none, none, none] [.long (zL r5)] h3
    refine fx_lstore_n (i := 1) (ls2 := [some (.ref 31), some (.long (zL r5)), none, none, none, none, none, none, none, none, none]) d_MO_takeTags_29 rfl (by decide) rfl ?_
    refine fx_lload_n (i := 1) d_MO_takeTags_30 rfl rfl ?_
    refine fx_ldc2 (v := 2) d_MO_takeTags_31 (fx_in 1164 (by decide +kernel) rfl) ?_
    refine fx_ladd d_MO_takeTags_34 ?_
    refine fx_aload_n (i := 0) d_MO_takeTags_35 rfl rfl ?_
    refine fx_getI d_MO_takeTags_36 lk_MO_105 (at_31 (h := _) hS3) rfl ?_
    obtain ⟨hz6, H⟩ := H
    refine fx_i2l d_MO_takeTags_39 hz6 ?_
    obtain ⟨hz7, H⟩ := H
    obtain ⟨hz8, H⟩ := H
    refine fx_lcmp d_MO_takeTags_40 hz7 hz8 ?_
    refine fx_if_le (t := 46) (n := 44) d_MO_takeTags_41 (zC_R _ _) (fun z9 => ?_) (fun z9 => ?_)
    · replace H := H.1 z9
      refine fx_aload_n (i := 0) d_MO_takeTags_46 rfl rfl ?_
      refine fx_lload_n (i := 1) d_MO_takeTags_47 rfl rfl ?_
      refine fx_iconst d_MO_takeTags_48 ?_
      refine fx_callV (M' := M_MO_number) (B' := (0, 0)) (vs := [.long (zL r5), .int (zI 2)]) (rest := []) (c1 := 0) (s1 := 0) (n := 52) d_MO_takeTags_49 ca_MO_takeTags_243 (at_31 (h := _) hS3) rfl rfl rfl ⟨by decide, by decide⟩ (Nat.le_of_ble_eq_true rfl) (Or.inl rfl) (fx_Mt.mono H fun v h10 hv => ?_)
      obtain ⟨r12, rfl, e11, H⟩ := hv
      have hS10 := e11.trans hS3
      show fx_V l M_MO_takeTags (0, 0) Q 0 0 52 [some (.ref 31), some (.long (zL r5)), none, none, none, none, none, none, none, none, none] [.long (zL r12)] h10
      refine fx_l2i d_MO_takeTags_52 ?_
      refine fx_istore_n (i := 3) (ls2 := [some (.ref 31), some (.long (zL r5)), none, some (.int (zI r12)), none, none, none, none, none, none, none]) d_MO_takeTags_53 rfl (by decide) rfl ?_
      refine fx_lload_n (i := 1) d_MO_takeTags_54 rfl rfl ?_
      refine fx_ldc2 (v := 6) d_MO_takeTags_55 (fx_in 1175 (by decide +kernel) rfl) ?_
      refine fx_ladd d_MO_takeTags_58 ?_
      refine fx_ldc2 (v := 12) d_MO_takeTags_59 (fx_in 1176 (by decide +kernel) rfl) ?_
      refine fx_iload_n (i := 3) d_MO_takeTags_62 rfl rfl ?_
      obtain ⟨hz13, H⟩ := H
      refine fx_i2l d_MO_takeTags_63 hz13 ?_
      refine fx_lmul d_MO_takeTags_64 ?_
      refine fx_ladd d_MO_takeTags_65 ?_
      refine fx_aload_n (i := 0) d_MO_takeTags_66 rfl rfl ?_
      refine fx_getI d_MO_takeTags_67 lk_MO_105 (at_31 (h := _) hS10) rfl ?_
      obtain ⟨hz14, H⟩ := H
      refine fx_i2l d_MO_takeTags_70 hz14 ?_
      obtain ⟨hz15, H⟩ := H
      obtain ⟨hz16, H⟩ := H
      refine fx_lcmp d_MO_takeTags_71 hz15 hz16 ?_
      refine fx_if_gt (t := 97) (n := 75) d_MO_takeTags_72 (zC_R _ _) (fun z17 => ?_) (fun z17 => ?_)
      · replace H := H.1 z17
        refine fx_iconst d_MO_takeTags_97 ?_
        exact fx_end (some (.int (zI 0))) ⟨⟨_, rfl, rfl⟩, d_MO_takeTags_98⟩ (Nat.le_refl _) (Nat.le_refl _) rfl H
      · replace H := H.2 z17
        refine fx_aload_n (i := 0) d_MO_takeTags_75 rfl rfl ?_
        refine fx_lload_n (i := 1) d_MO_takeTags_76 rfl rfl ?_
        refine fx_ldc2 (v := 2) d_MO_takeTags_77 (fx_in 1164 (by decide +kernel) rfl) ?_
        refine fx_ladd d_MO_takeTags_80 ?_
        refine fx_ldc2 (v := 12) d_MO_takeTags_81 (fx_in 1176 (by decide +kernel) rfl) ?_
        refine fx_iload_n (i := 3) d_MO_takeTags_84 rfl rfl ?_
        refine fx_i2l d_MO_takeTags_85 hz13 ?_
        refine fx_lmul d_MO_takeTags_86 ?_
        refine fx_ladd d_MO_takeTags_87 ?_
        refine fx_iconst d_MO_takeTags_88 ?_
        refine fx_callV (M' := M_MO_number) (B' := (0, 0)) (vs := [.long (zL ((r5 + 2) + (12 * r12))), .int (zI 4)]) (rest := []) (c1 := 0) (s1 := 0) (n := 92) d_MO_takeTags_89 ca_MO_takeTags_243 (at_31 (h := _) hS10) rfl rfl rfl ⟨by decide, by decide⟩ (Nat.le_of_ble_eq_true rfl) (Or.inl rfl) (fx_Mt.mono H fun v h18 hv => ?_)
        obtain ⟨r20, rfl, e19, H⟩ := hv
        have hS18 := e19.trans hS10
        show fx_V l M_MO_takeTags (0, 0) Q 0 0 92 [some (.ref 31), some (.long (zL r5)), none, some (.int (zI r12)), none, none, none, none, none, none, none] [.long (zL r20)] h18
        refine fx_lconst (v := 0) d_MO_takeTags_92 rfl ?_
        obtain ⟨hz21, H⟩ := H
        refine fx_lcmp d_MO_takeTags_93 hz21 (show zRL 0 by decide) ?_
        refine fx_if_eq (t := 99) (n := 97) d_MO_takeTags_94 (zC_R _ _) (fun z22 => ?_) (fun z22 => ?_)
        · replace H := H.1 z22
          refine fx_iconst d_MO_takeTags_99 ?_
          refine fx_istore (ls2 := [some (.ref 31), some (.long (zL r5)), none, some (.int (zI r12)), some (.int (zI (-1))), none, none, none, none, none, none]) d_MO_takeTags_100 (by decide) rfl ?_
          refine fx_iconst d_MO_takeTags_102 ?_
          refine fx_istore (ls2 := [some (.ref 31), some (.long (zL r5)), none, some (.int (zI r12)), some (.int (zI (-1))), some (.int (zI 1)), none, none, none, none, none]) d_MO_takeTags_103 (by decide) rfl ?_
          refine fx_iconst d_MO_takeTags_105 ?_
          refine fx_istore (ls2 := [some (.ref 31), some (.long (zL r5)), none, some (.int (zI r12)), some (.int (zI (-1))), some (.int (zI 1)), some (.int (zI 0)), none, none, none, none]) d_MO_takeTags_106 (by decide) rfl ?_
          exact H
        · replace H := H.2 z22
          refine fx_iconst d_MO_takeTags_97 ?_
          exact fx_end (some (.int (zI 0))) ⟨⟨_, rfl, rfl⟩, d_MO_takeTags_98⟩ (Nat.le_refl _) (Nat.le_refl _) rfl H
    · replace H := H.2 z9
      refine fx_iconst d_MO_takeTags_44 ?_
      exact fx_end (some (.int (zI 0))) ⟨⟨_, rfl, rfl⟩, d_MO_takeTags_45⟩ (Nat.le_refl _) (Nat.le_refl _) rfl H
  · replace H := H.2 z2
    refine fx_aload_n (i := 0) d_MO_takeTags_8 rfl rfl ?_
    refine fx_getR (q := 43) d_MO_takeTags_9 lk_MO_62 (at_31 (h := _) hS) rfl rfl ?_
    refine fx_iload_n (i := 1) d_MO_takeTags_12 rfl rfl ?_
    refine fx_iconst d_MO_takeTags_13 ?_
    obtain ⟨hn23, H⟩ := H
    obtain ⟨hn24, H⟩ := H
    refine fx_zast d_MO_takeTags_14 (at_43 (h := _) hS) hn23 hn24 (by decide) (by decide) ?_
    refine fx_iinc (v := x1 + 1) (ls2 := [some (.ref 31), some (.int (zI (x1 + 1))), none, none, none, none, none, none, none, none, none]) d_MO_takeTags_15 rfl rfl (by decide) rfl ?_
    refine fx_goto (n := 2) d_MO_takeTags_18 ?_
    exact H

set_option maxRecDepth 100000 in
set_option maxHeartbeats 4000000 in
theorem w_MO_takeTags_108 {l : Launch} {Q : Option Value → fx_H → Prop} {h : fx_H}  {x1 : Int} {x3 : Int} {x4 : Int} {x5 : Int} {x6 : Int}  {a : Nat → Nat} {pp dd : Nat} (hS : h.1 = fx_S0 a pp dd) 
    (H : zR x6 ∧ zR x3 ∧ ((x3 ≤ x6 → (x5 = 0 ∨ x5 = 1) ∧ Q (some (.int (zI x5))) h) ∧ (¬ (x3 ≤ x6) → fx_Mt l M_MO_number (0, 0) [.ref 31, .long (zL ((x1 + 2) + (12 * x6))), .int (zI 2)] h (fun v h5 => ∃ r7 : Int, v = some (.long (zL r7)) ∧ h5.1 = h.1 ∧ fx_Mt l M_MO_known (0, 0) [.int (zI r7)] h5 (fun v h8 => ∃ r10 : Int, v = some (.int (zI r10)) ∧ h8.1 = h5.1 ∧ zR x5 ∧ ((x5 = 0 → (fx_V l M_MO_takeTags (0, 0) Q 0 0 108 [some (.ref 31), some (.long (zL x1)), none, some (.int (zI x3)), some (.int (zI r7)), some (.int (zI 0)), some (.int (zI (x6 + 1))), none, none, none, none] [] h8)) ∧ (¬ (x5 = 0) → zR r7 ∧ zR x4 ∧ ((r7 ≤ x4 → (fx_V l M_MO_takeTags (0, 0) Q 0 0 108 [some (.ref 31), some (.long (zL x1)), none, some (.int (zI x3)), some (.int (zI r7)), some (.int (zI 0)), some (.int (zI (x6 + 1))), none, none, none, none] [] h8)) ∧ (¬ (r7 ≤ x4) → zR r10 ∧ ((r10 < 0 → (fx_V l M_MO_takeTags (0, 0) Q 0 0 108 [some (.ref 31), some (.long (zL x1)), none, some (.int (zI x3)), some (.int (zI r7)), some (.int (zI 1)), some (.int (zI (x6 + 1))), none, none, none, none] [] h8)) ∧ (¬ (r10 < 0) → fx_Mt l M_MO_takeTag (0, 0) [.ref 31, .int (zI r10), .long (zL ((x1 + 2) + (12 * x6)))] h8 (fun v h18 => ∃ r20 : Int, v = some (.int (zI r20)) ∧ h18.1 = h8.1 ∧ zR r20 ∧ ((r20 = 0 → (fx_V l M_MO_takeTags (0, 0) Q 0 0 108 [some (.ref 31), some (.long (zL x1)), none, some (.int (zI x3)), some (.int (zI r7)), some (.int (zI 0)), some (.int (zI (x6 + 1))), none, none, none, none] [] h18)) ∧ (¬ (r20 = 0) → (fx_V l M_MO_takeTags (0, 0) Q 0 0 108 [some (.ref 31), some (.long (zL x1)), none, some (.int (zI x3)), some (.int (zI r7)), some (.int (zI 1)), some (.int (zI (x6 + 1))), none, none, none, none] [] h18))))))))))))))) :
    fx_V l M_MO_takeTags (0, 0) Q 0 0 108 [some (.ref 31), some (.long (zL x1)), none, some (.int (zI x3)), some (.int (zI x4)), some (.int (zI x5)), some (.int (zI x6)), none, none, none, none] [] h := by
  refine fx_iload d_MO_takeTags_108 rfl ?_
  refine fx_iload_n (i := 3) d_MO_takeTags_110 rfl rfl ?_
  obtain ⟨hz1, H⟩ := H
  obtain ⟨hz2, H⟩ := H
  refine fx_icmp_ge (t := 191) (n := 114) d_MO_takeTags_111 hz1 hz2 (fun z3 => ?_) (fun z3 => ?_)
  · replace H := H.1 z3
    refine fx_iload d_MO_takeTags_191 rfl ?_
    obtain ⟨hn4, H⟩ := H
    exact fx_end (some (.int (zI x5))) ⟨⟨_, rfl, fx_nb hn4⟩, d_MO_takeTags_193⟩ (Nat.le_refl _) (Nat.le_refl _) rfl H
  · replace H := H.2 z3
    refine fx_lload_n (i := 1) d_MO_takeTags_114 rfl rfl ?_
    refine fx_ldc2 (v := 2) d_MO_takeTags_115 (fx_in 1164 (by decide +kernel) rfl) ?_
    refine fx_ladd d_MO_takeTags_118 ?_
    refine fx_ldc2 (v := 12) d_MO_takeTags_119 (fx_in 1176 (by decide +kernel) rfl) ?_
    refine fx_iload d_MO_takeTags_122 rfl ?_
    refine fx_i2l d_MO_takeTags_124 hz1 ?_
    refine fx_lmul d_MO_takeTags_125 ?_
    refine fx_ladd d_MO_takeTags_126 ?_
    refine fx_lstore (ls2 := [some (.ref 31), some (.long (zL x1)), none, some (.int (zI x3)), some (.int (zI x4)), some (.int (zI x5)), some (.int (zI x6)), some (.long (zL ((x1 + 2) + (12 * x6)))), none, none, none]) d_MO_takeTags_127 (by decide) rfl ?_
    refine fx_aload_n (i := 0) d_MO_takeTags_129 rfl rfl ?_
    refine fx_lload d_MO_takeTags_130 rfl ?_
    refine fx_iconst d_MO_takeTags_132 ?_
    refine fx_callV (M' := M_MO_number) (B' := (0, 0)) (vs := [.long (zL ((x1 + 2) + (12 * x6))), .int (zI 2)]) (rest := []) (c1 := 0) (s1 := 0) (n := 136) d_MO_takeTags_133 ca_MO_takeTags_243 (at_31 (h := _) hS) rfl rfl rfl ⟨by decide, by decide⟩ (Nat.le_of_ble_eq_true rfl) (Or.inl rfl) (fx_Mt.mono H fun v h5 hv => ?_)
    obtain ⟨r7, rfl, e6, H⟩ := hv
    have hS5 := e6.trans hS
    show fx_V l M_MO_takeTags (0, 0) Q 0 0 136 [some (.ref 31), some (.long (zL x1)), none, some (.int (zI x3)), some (.int (zI x4)), some (.int (zI x5)), some (.int (zI x6)), some (.long (zL ((x1 + 2) + (12 * x6)))), none, none, none] [.long (zL r7)] h5
    refine fx_l2i d_MO_takeTags_136 ?_
    refine fx_istore (ls2 := [some (.ref 31), some (.long (zL x1)), none, some (.int (zI x3)), some (.int (zI x4)), some (.int (zI x5)), some (.int (zI x6)), some (.long (zL ((x1 + 2) + (12 * x6)))), none, some (.int (zI r7)), none]) d_MO_takeTags_137 (by decide) rfl ?_
    refine fx_iload d_MO_takeTags_139 rfl ?_
    refine fx_callS (M' := M_MO_known) (B' := (0, 0)) (vs := [.int (zI r7)]) (rest := []) (c1 := 0) (s1 := 0) (n := 144) d_MO_takeTags_141 ca_MO_takeTags_253 rfl rfl ⟨by decide, by decide⟩ (Nat.le_of_ble_eq_true rfl) (Or.inl rfl) (fx_Mt.mono H fun v h8 hv => ?_)
    obtain ⟨r10, rfl, e9, H⟩ := hv
    have hS8 := e9.trans hS5
    show fx_V l M_MO_takeTags (0, 0) Q 0 0 144 [some (.ref 31), some (.long (zL x1)), none, some (.int (zI x3)), some (.int (zI x4)), some (.int (zI x5)), some (.int (zI x6)), some (.long (zL ((x1 + 2) + (12 * x6)))), none, some (.int (zI r7)), none] [.int (zI r10)] h8
    refine fx_istore (ls2 := [some (.ref 31), some (.long (zL x1)), none, some (.int (zI x3)), some (.int (zI x4)), some (.int (zI x5)), some (.int (zI x6)), some (.long (zL ((x1 + 2) + (12 * x6)))), none, some (.int (zI r7)), some (.int (zI r10))]) d_MO_takeTags_144 (by decide) rfl ?_
    refine fx_iload d_MO_takeTags_146 rfl ?_
    obtain ⟨hz11, H⟩ := H
    refine fx_if_eq (t := 178) (n := 151) d_MO_takeTags_148 hz11 (fun z12 => ?_) (fun z12 => ?_)
    · replace H := H.1 z12
      refine fx_iconst d_MO_takeTags_178 ?_
      refine fx_istore (ls2 := [some (.ref 31), some (.long (zL x1)), none, some (.int (zI x3)), some (.int (zI x4)), some (.int (zI 0)), some (.int (zI x6)), some (.long (zL ((x1 + 2) + (12 * x6)))), none, some (.int (zI r7)), some (.int (zI r10))]) d_MO_takeTags_179 (by decide) rfl ?_
      refine fx_iload d_MO_takeTags_181 rfl ?_
      refine fx_istore (ls2 := [some (.ref 31), some (.long (zL x1)), none, some (.int (zI x3)), some (.int (zI r7)), some (.int (zI 0)), some (.int (zI x6)), some (.long (zL ((x1 + 2) + (12 * x6)))), none, some (.int (zI r7)), some (.int (zI r10))]) d_MO_takeTags_183 (by decide) rfl ?_
      refine fx_iinc (v := x6 + 1) (ls2 := [some (.ref 31), some (.long (zL x1)), none, some (.int (zI x3)), some (.int (zI r7)), some (.int (zI 0)), some (.int (zI (x6 + 1))), some (.long (zL ((x1 + 2) + (12 * x6)))), none, some (.int (zI r7)), some (.int (zI r10))]) d_MO_takeTags_185 rfl rfl (by decide) rfl ?_
      refine fx_goto (n := 108) d_MO_takeTags_188 ?_
      exact fx_fewer [some (.ref 31), some (.long (zL x1)), none, some (.int (zI x3)), some (.int (zI r7)), some (.int (zI 0)), some (.int (zI (x6 + 1))), none, none, none, none] ⟨rfl, rfl, rfl, rfl, rfl, rfl, trivial⟩ H
    · replace H := H.2 z12
      refine fx_iload d_MO_takeTags_151 rfl ?_
      refine fx_iload d_MO_takeTags_153 rfl ?_
      obtain ⟨hz13, H⟩ := H
      obtain ⟨hz14, H⟩ := H
      refine fx_icmp_le (t := 178) (n := 158) d_MO_takeTags_155 hz13 hz14 (fun z15 => ?_) (fun z15 => ?_)
      · replace H := H.1 z15
        refine fx_iconst d_MO_takeTags_178 ?_
        refine fx_istore (ls2 := [some (.ref 31), some (.long (zL x1)), none, some (.int (zI x3)), some (.int (zI x4)), some (.int (zI 0)), some (.int (zI x6)), some (.long (zL ((x1 + 2) + (12 * x6)))), none, some (.int (zI r7)), some (.int (zI r10))]) d_MO_takeTags_179 (by decide) rfl ?_
        refine fx_iload d_MO_takeTags_181 rfl ?_
        refine fx_istore (ls2 := [some (.ref 31), some (.long (zL x1)), none, some (.int (zI x3)), some (.int (zI r7)), some (.int (zI 0)), some (.int (zI x6)), some (.long (zL ((x1 + 2) + (12 * x6)))), none, some (.int (zI r7)), some (.int (zI r10))]) d_MO_takeTags_183 (by decide) rfl ?_
        refine fx_iinc (v := x6 + 1) (ls2 := [some (.ref 31), some (.long (zL x1)), none, some (.int (zI x3)), some (.int (zI r7)), some (.int (zI 0)), some (.int (zI (x6 + 1))), some (.long (zL ((x1 + 2) + (12 * x6)))), none, some (.int (zI r7)), some (.int (zI r10))]) d_MO_takeTags_185 rfl rfl (by decide) rfl ?_
        refine fx_goto (n := 108) d_MO_takeTags_188 ?_
        exact fx_fewer [some (.ref 31), some (.long (zL x1)), none, some (.int (zI x3)), some (.int (zI r7)), some (.int (zI 0)), some (.int (zI (x6 + 1))), none, none, none, none] ⟨rfl, rfl, rfl, rfl, rfl, rfl, trivial⟩ H
      · replace H := H.2 z15
        refine fx_iload d_MO_takeTags_158 rfl ?_
        obtain ⟨hz16, H⟩ := H
        refine fx_if_lt (t := 174) (n := 163) d_MO_takeTags_160 hz16 (fun z17 => ?_) (fun z17 => ?_)
        · replace H := H.1 z17
          refine fx_iconst d_MO_takeTags_174 ?_
          refine fx_goto (n := 179) d_MO_takeTags_175 ?_
          refine fx_istore (ls2 := [some (.ref 31), some (.long (zL x1)), none, some (.int (zI x3)), some (.int (zI x4)), some (.int (zI 1)), some (.int (zI x6)), some (.long (zL ((x1 + 2) + (12 * x6)))), none, some (.int (zI r7)), some (.int (zI r10))]) d_MO_takeTags_179 (by decide) rfl ?_
          refine fx_iload d_MO_takeTags_181 rfl ?_
          refine fx_istore (ls2 := [some (.ref 31), some (.long (zL x1)), none, some (.int (zI x3)), some (.int (zI r7)), some (.int (zI 1)), some (.int (zI x6)), some (.long (zL ((x1 + 2) + (12 * x6)))), none, some (.int (zI r7)), some (.int (zI r10))]) d_MO_takeTags_183 (by decide) rfl ?_
          refine fx_iinc (v := x6 + 1) (ls2 := [some (.ref 31), some (.long (zL x1)), none, some (.int (zI x3)), some (.int (zI r7)), some (.int (zI 1)), some (.int (zI (x6 + 1))), some (.long (zL ((x1 + 2) + (12 * x6)))), none, some (.int (zI r7)), some (.int (zI r10))]) d_MO_takeTags_185 rfl rfl (by decide) rfl ?_
          refine fx_goto (n := 108) d_MO_takeTags_188 ?_
          exact fx_fewer [some (.ref 31), some (.long (zL x1)), none, some (.int (zI x3)), some (.int (zI r7)), some (.int (zI 1)), some (.int (zI (x6 + 1))), none, none, none, none] ⟨rfl, rfl, rfl, rfl, rfl, rfl, trivial⟩ H
        · replace H := H.2 z17
          refine fx_aload_n (i := 0) d_MO_takeTags_163 rfl rfl ?_
          refine fx_iload d_MO_takeTags_164 rfl ?_
          refine fx_lload d_MO_takeTags_166 rfl ?_
          refine fx_callV (M' := M_MO_takeTag) (B' := (0, 0)) (vs := [.int (zI r10), .long (zL ((x1 + 2) + (12 * x6)))]) (rest := []) (c1 := 0) (s1 := 0) (n := 171) d_MO_takeTags_168 ca_MO_takeTags_256 (at_31 (h := _) hS8) rfl rfl rfl ⟨by decide, by decide⟩ (Nat.le_of_ble_eq_true rfl) (Or.inl rfl) (fx_Mt.mono H fun v h18 hv => ?_)
          obtain ⟨r20, rfl, e19, H⟩ := hv
          have hS18 := e19.trans hS8
          show fx_V l M_MO_takeTags (0, 0) Q 0 0 171 [some (.ref 31), some (.long (zL x1)), none, some (.int (zI x3)), some (.int (zI x4)), some (.int (zI x5)), some (.int (zI x6)), some (.long (zL ((x1 + 2) + (12 * x6)))), none, some (.int (zI r7)), some (.int (zI r10))] [.int (zI r20)] h18
          obtain ⟨hz21, H⟩ := H
          refine fx_if_eq (t := 178) (n := 174) d_MO_takeTags_171 hz21 (fun z22 => ?_) (fun z22 => ?_)
          · replace H := H.1 z22
            refine fx_iconst d_MO_takeTags_178 ?_
            refine fx_istore (ls2 := [some (.ref 31), some (.long (zL x1)), none, some (.int (zI x3)), some (.int (zI x4)), some (.int (zI 0)), some (.int (zI x6)), some (.long (zL ((x1 + 2) + (12 * x6)))), none, some (.int (zI r7)), some (.int (zI r10))]) d_MO_takeTags_179 (by decide) rfl ?_
            refine fx_iload d_MO_takeTags_181 rfl ?_
            refine fx_istore (ls2 := [some (.ref 31), some (.long (zL x1)), none, some (.int (zI x3)), some (.int (zI r7)), some (.int (zI 0)), some (.int (zI x6)), some (.long (zL ((x1 + 2) + (12 * x6)))), none, some (.int (zI r7)), some (.int (zI r10))]) d_MO_takeTags_183 (by decide) rfl ?_
            refine fx_iinc (v := x6 + 1) (ls2 := [some (.ref 31), some (.long (zL x1)), none, some (.int (zI x3)), some (.int (zI r7)), some (.int (zI 0)), some (.int (zI (x6 + 1))), some (.long (zL ((x1 + 2) + (12 * x6)))), none, some (.int (zI r7)), some (.int (zI r10))]) d_MO_takeTags_185 rfl rfl (by decide) rfl ?_
            refine fx_goto (n := 108) d_MO_takeTags_188 ?_
            exact fx_fewer [some (.ref 31), some (.long (zL x1)), none, some (.int (zI x3)), some (.int (zI r7)), some (.int (zI 0)), some (.int (zI (x6 + 1))), none, none, none, none] ⟨rfl, rfl, rfl, rfl, rfl, rfl, trivial⟩ H
          · replace H := H.2 z22
            refine fx_iconst d_MO_takeTags_174 ?_
            refine fx_goto (n := 179) d_MO_takeTags_175 ?_
            refine fx_istore (ls2 := [some (.ref 31), some (.long (zL x1)), none, some (.int (zI x3)), some (.int (zI x4)), some (.int (zI 1)), some (.int (zI x6)), some (.long (zL ((x1 + 2) + (12 * x6)))), none, some (.int (zI r7)), some (.int (zI r10))]) d_MO_takeTags_179 (by decide) rfl ?_
            refine fx_iload d_MO_takeTags_181 rfl ?_
            refine fx_istore (ls2 := [some (.ref 31), some (.long (zL x1)), none, some (.int (zI x3)), some (.int (zI r7)), some (.int (zI 1)), some (.int (zI x6)), some (.long (zL ((x1 + 2) + (12 * x6)))), none, some (.int (zI r7)), some (.int (zI r10))]) d_MO_takeTags_183 (by decide) rfl ?_
            refine fx_iinc (v := x6 + 1) (ls2 := [some (.ref 31), some (.long (zL x1)), none, some (.int (zI x3)), some (.int (zI r7)), some (.int (zI 1)), some (.int (zI (x6 + 1))), some (.long (zL ((x1 + 2) + (12 * x6)))), none, some (.int (zI r7)), some (.int (zI r10))]) d_MO_takeTags_185 rfl rfl (by decide) rfl ?_
            refine fx_goto (n := 108) d_MO_takeTags_188 ?_
            exact fx_fewer [some (.ref 31), some (.long (zL x1)), none, some (.int (zI x3)), some (.int (zI r7)), some (.int (zI 1)), some (.int (zI (x6 + 1))), none, none, none, none] ⟨rfl, rfl, rfl, rfl, rfl, rfl, trivial⟩ H

set_option maxRecDepth 100000 in
set_option maxHeartbeats 4000000 in
theorem e_MO_known {l : Launch} {Q : Option Value → fx_H → Prop} {h : fx_H}  {x : Int}  {a : Nat → Nat} {pp dd : Nat} (hS : h.1 = fx_S0 a pp dd) 
    (H : zR x ∧ ((x = 256 → Q (some (.int (zI 0))) h) ∧ (x = 257 → Q (some (.int (zI 1))) h) ∧ (x = 258 → Q (some (.int (zI 2))) h) ∧ (x = 259 → Q (some (.int (zI 3))) h) ∧ (x = 262 → Q (some (.int (zI 4))) h) ∧ (x = 273 → Q (some (.int (zI 5))) h) ∧ (x = 278 → Q (some (.int (zI 6))) h) ∧ (x = 279 → Q (some (.int (zI 7))) h) ∧ (x = 292 → Q (some (.int (zI 8))) h) ∧ (¬ x = 256 → ¬ x = 257 → ¬ x = 258 → ¬ x = 259 → ¬ x = 262 → ¬ x = 273 → ¬ x = 278 → ¬ x = 279 → ¬ x = 292 → Q (some (.int (zI (-1)))) h))) :
    fx_Mt l M_MO_known (0, 0) [.int (zI x)] h Q := by
  refine fx_entry (ls := [some (.int (zI x))]) (by decide) (Nat.le_of_ble_eq_true rfl) rfl ?_
  refine fx_iload_n (i := 0) d_MO_known_0 rfl rfl ?_
  obtain ⟨hz1, H⟩ := H
  rcases Classical.em (x = 256) with z20 | z20
  · replace H := H.1 z20
    refine fx_lookup (off := 83) (n := 84) d_MO_known_1 (by decide) hz1 (by rw [z20]; decide) ?_
    refine fx_iconst d_MO_known_84 ?_
    exact fx_end (some (.int (zI 0))) ⟨⟨_, rfl, rfl⟩, d_MO_known_85⟩ (Nat.le_refl _) (Nat.le_refl _) rfl H
  replace H := H.2
  rcases Classical.em (x = 257) with z21 | z21
  · replace H := H.1 z21
    refine fx_lookup (off := 85) (n := 86) d_MO_known_1 (by decide) hz1 (by rw [z21]; decide) ?_
    refine fx_iconst d_MO_known_86 ?_
    exact fx_end (some (.int (zI 1))) ⟨⟨_, rfl, rfl⟩, d_MO_known_87⟩ (Nat.le_refl _) (Nat.le_refl _) rfl H
  replace H := H.2
  rcases Classical.em (x = 258) with z22 | z22
  · replace H := H.1 z22
    refine fx_lookup (off := 87) (n := 88) d_MO_known_1 (by decide) hz1 (by rw [z22]; decide) ?_
    refine fx_iconst d_MO_known_88 ?_
    exact fx_end (some (.int (zI 2))) ⟨⟨_, rfl, rfl⟩, d_MO_known_89⟩ (Nat.le_refl _) (Nat.le_refl _) rfl H
  replace H := H.2
  rcases Classical.em (x = 259) with z23 | z23
  · replace H := H.1 z23
    refine fx_lookup (off := 89) (n := 90) d_MO_known_1 (by decide) hz1 (by rw [z23]; decide) ?_
    refine fx_iconst d_MO_known_90 ?_
    exact fx_end (some (.int (zI 3))) ⟨⟨_, rfl, rfl⟩, d_MO_known_91⟩ (Nat.le_refl _) (Nat.le_refl _) rfl H
  replace H := H.2
  rcases Classical.em (x = 262) with z24 | z24
  · replace H := H.1 z24
    refine fx_lookup (off := 91) (n := 92) d_MO_known_1 (by decide) hz1 (by rw [z24]; decide) ?_
    refine fx_iconst d_MO_known_92 ?_
    exact fx_end (some (.int (zI 4))) ⟨⟨_, rfl, rfl⟩, d_MO_known_93⟩ (Nat.le_refl _) (Nat.le_refl _) rfl H
  replace H := H.2
  rcases Classical.em (x = 273) with z25 | z25
  · replace H := H.1 z25
    refine fx_lookup (off := 93) (n := 94) d_MO_known_1 (by decide) hz1 (by rw [z25]; decide) ?_
    refine fx_iconst d_MO_known_94 ?_
    exact fx_end (some (.int (zI 5))) ⟨⟨_, rfl, rfl⟩, d_MO_known_95⟩ (Nat.le_refl _) (Nat.le_refl _) rfl H
  replace H := H.2
  rcases Classical.em (x = 278) with z26 | z26
  · replace H := H.1 z26
    refine fx_lookup (off := 95) (n := 96) d_MO_known_1 (by decide) hz1 (by rw [z26]; decide) ?_
    refine fx_bipush (v := 6) d_MO_known_96 rfl ?_
    exact fx_end (some (.int (zI 6))) ⟨⟨_, rfl, rfl⟩, d_MO_known_98⟩ (Nat.le_refl _) (Nat.le_refl _) rfl H
  replace H := H.2
  rcases Classical.em (x = 279) with z27 | z27
  · replace H := H.1 z27
    refine fx_lookup (off := 98) (n := 99) d_MO_known_1 (by decide) hz1 (by rw [z27]; decide) ?_
    refine fx_bipush (v := 7) d_MO_known_99 rfl ?_
    exact fx_end (some (.int (zI 7))) ⟨⟨_, rfl, rfl⟩, d_MO_known_101⟩ (Nat.le_refl _) (Nat.le_refl _) rfl H
  replace H := H.2
  rcases Classical.em (x = 292) with z28 | z28
  · replace H := H.1 z28
    refine fx_lookup (off := 101) (n := 102) d_MO_known_1 (by decide) hz1 (by rw [z28]; decide) ?_
    refine fx_bipush (v := 8) d_MO_known_102 rfl ?_
    exact fx_end (some (.int (zI 8))) ⟨⟨_, rfl, rfl⟩, d_MO_known_104⟩ (Nat.le_refl _) (Nat.le_refl _) rfl H
  replace H := H.2
  replace H := H z20 z21 z22 z23 z24 z25 z26 z27 z28
  refine fx_lookup (off := 104) (n := 105) d_MO_known_1 (by decide) hz1 (by simp [Op.lookupswitch.offset, Ne.symm z20, Ne.symm z21, Ne.symm z22, Ne.symm z23, Ne.symm z24, Ne.symm z25, Ne.symm z26, Ne.symm z27, Ne.symm z28]) ?_
  refine fx_iconst d_MO_known_105 ?_
  exact fx_end (some (.int (zI (-1)))) ⟨⟨_, rfl, rfl⟩, d_MO_known_106⟩ (Nat.le_refl _) (Nat.le_refl _) rfl H

set_option maxRecDepth 100000 in
set_option maxHeartbeats 4000000 in
theorem e_MO_takeTag {l : Launch} {Q : Option Value → fx_H → Prop} {h : fx_H}  {x : Int} {y : Int}  {a : Nat → Nat} {pp dd : Nat} (hS : h.1 = fx_S0 a pp dd) 
    (H : 0 ≤ x ∧ x < 9 ∧ fx_Mt l M_MO_number (0, 0) [.ref 31, .long (zL (y + 2)), .int (zI 2)] (fx_uA h 43 (x.toNat) 1) (fun v h3 => ∃ r5 : Int, v = some (.long (zL r5)) ∧ h3.1 = (fx_uA h 43 (x.toNat) 1).1 ∧ 0 ≤ x ∧ x < 9 ∧ fx_Mt l M_MO_number (0, 0) [.ref 31, .long (zL (y + 4)), .int (zI 4)] (fx_uA h3 44 (x.toNat) r5) (fun v h8 => ∃ r10 : Int, v = some (.long (zL r10)) ∧ h8.1 = (fx_uA h3 44 (x.toNat) r5).1 ∧ 0 ≤ x ∧ x < 9 ∧ 0 ≤ x ∧ x < 9 ∧ zR (h8.2.2.1 44 (x.toNat)) ∧ ((¬ (h8.2.2.1 44 (x.toNat)) = 3 → (fx_V l M_MO_takeTag (0, 0) Q 0 0 55 [some (.ref 31), some (.int (zI x)), some (.long (zL y)), none, none, none] [.int (zI 4)] (fx_uL h8 45 (x.toNat) r10))) ∧ ((h8.2.2.1 44 (x.toNat)) = 3 → (fx_V l M_MO_takeTag (0, 0) Q 0 0 55 [some (.ref 31), some (.int (zI x)), some (.long (zL y)), none, none, none] [.int (zI 2)] (fx_uL h8 45 (x.toNat) r10))))))) :
    fx_Mt l M_MO_takeTag (0, 0) [.ref 31, .int (zI x), .long (zL y)] h Q := by
  refine fx_entry (ls := [some (.ref 31), some (.int (zI x)), some (.long (zL y)), none, none, none]) (by decide) (Nat.le_of_ble_eq_true rfl) rfl ?_
  refine fx_aload_n (i := 0) d_MO_takeTag_0 rfl rfl ?_
  refine fx_getR (q := 43) d_MO_takeTag_1 lk_MO_62 (at_31 (h := _) hS) rfl rfl ?_
  refine fx_iload_n (i := 1) d_MO_takeTag_4 rfl rfl ?_
  refine fx_iconst d_MO_takeTag_5 ?_
  obtain ⟨hn1, H⟩ := H
  obtain ⟨hn2, H⟩ := H
  refine fx_zast d_MO_takeTag_6 (at_43 (h := _) hS) hn1 hn2 (by decide) (by decide) ?_
  refine fx_aload_n (i := 0) d_MO_takeTag_7 rfl rfl ?_
  refine fx_getR (q := 44) d_MO_takeTag_8 lk_MO_66 (at_31 (h := _) hS) rfl rfl ?_
  refine fx_iload_n (i := 1) d_MO_takeTag_11 rfl rfl ?_
  refine fx_aload_n (i := 0) d_MO_takeTag_12 rfl rfl ?_
  refine fx_lload_n (i := 2) d_MO_takeTag_13 rfl rfl ?_
  refine fx_ldc2 (v := 2) d_MO_takeTag_14 (fx_in 1164 (by decide +kernel) rfl) ?_
  refine fx_ladd d_MO_takeTag_17 ?_
  refine fx_iconst d_MO_takeTag_18 ?_
  refine fx_callV (M' := M_MO_number) (B' := (0, 0)) (vs := [.long (zL (y + 2)), .int (zI 2)]) (rest := [.int (zI x), .ref 44]) (c1 := 0) (s1 := 0) (n := 22) d_MO_takeTag_19 ca_MO_takeTag_243 (at_31 (h := _) hS) rfl rfl rfl ⟨by decide, by decide⟩ (Nat.le_of_ble_eq_true rfl) (Or.inl rfl) (fx_Mt.mono H fun v h3 hv => ?_)
  obtain ⟨r5, rfl, e4, H⟩ := hv
  have hS3 := e4.trans hS
  show fx_V l M_MO_takeTag (0, 0) Q 0 0 22 [some (.ref 31), some (.int (zI x)), some (.long (zL y)), none, none, none] [.long (zL r5), .int (zI x), .ref 44] h3
  refine fx_l2i d_MO_takeTag_22 ?_
  obtain ⟨hn6, H⟩ := H
  obtain ⟨hn7, H⟩ := H
  refine fx_iast d_MO_takeTag_23 (at_44 (h := _) hS3) hn6 hn7 (by decide) ?_
  refine fx_aload_n (i := 0) d_MO_takeTag_24 rfl rfl ?_
  refine fx_getR (q := 45) d_MO_takeTag_25 lk_MO_69 (at_31 (h := _) hS3) rfl rfl ?_
  refine fx_iload_n (i := 1) d_MO_takeTag_28 rfl rfl ?_
  refine fx_aload_n (i := 0) d_MO_takeTag_29 rfl rfl ?_
  refine fx_lload_n (i := 2) d_MO_takeTag_30 rfl rfl ?_
  refine fx_ldc2 (v := 4) d_MO_takeTag_31 (fx_in 1054 (by decide +kernel) rfl) ?_
  refine fx_ladd d_MO_takeTag_34 ?_
  refine fx_iconst d_MO_takeTag_35 ?_
  refine fx_callV (M' := M_MO_number) (B' := (0, 0)) (vs := [.long (zL (y + 4)), .int (zI 4)]) (rest := [.int (zI x), .ref 45]) (c1 := 0) (s1 := 0) (n := 39) d_MO_takeTag_36 ca_MO_takeTag_243 (at_31 (h := _) hS3) rfl rfl rfl ⟨by decide, by decide⟩ (Nat.le_of_ble_eq_true rfl) (Or.inl rfl) (fx_Mt.mono H fun v h8 hv => ?_)
  obtain ⟨r10, rfl, e9, H⟩ := hv
  have hS8 := e9.trans hS3
  show fx_V l M_MO_takeTag (0, 0) Q 0 0 39 [some (.ref 31), some (.int (zI x)), some (.long (zL y)), none, none, none] [.long (zL r10), .int (zI x), .ref 45] h8
  obtain ⟨hn11, H⟩ := H
  obtain ⟨hn12, H⟩ := H
  refine fx_last d_MO_takeTag_39 (at_45 (h := _) hS8) hn11 hn12 (by decide) ?_
  refine fx_aload_n (i := 0) d_MO_takeTag_40 rfl rfl ?_
  refine fx_getR (q := 44) d_MO_takeTag_41 lk_MO_66 (at_31 (h := _) hS8) rfl rfl ?_
  refine fx_iload_n (i := 1) d_MO_takeTag_44 rfl rfl ?_
  obtain ⟨hn13, H⟩ := H
  obtain ⟨hn14, H⟩ := H
  refine fx_iald d_MO_takeTag_45 (at_44 (h := _) hS8) hn13 hn14 (by decide) ?_
  refine fx_iconst d_MO_takeTag_46 ?_
  obtain ⟨hz15, H⟩ := H
  refine fx_icmp_ne (t := 54) (n := 50) d_MO_takeTag_47 hz15 (show zR 3 by decide) (fun z16 => ?_) (fun z16 => ?_)
  · replace H := H.1 z16
    refine fx_iconst d_MO_takeTag_54 ?_
    exact H
  · replace H := H.2 z16
    refine fx_iconst d_MO_takeTag_50 ?_
    refine fx_goto (n := 55) d_MO_takeTag_51 ?_
    exact H

set_option maxRecDepth 100000 in
set_option maxHeartbeats 4000000 in
theorem w_MO_takeTag_55 {l : Launch} {Q : Option Value → fx_H → Prop} {h : fx_H}  {x1 : Int} {x2 : Int} {y0 : Int}  {a : Nat → Nat} {pp dd : Nat} (hS : h.1 = fx_S0 a pp dd) 
    (H : 0 ≤ x1 ∧ x1 < 9 ∧ zR y0 ∧ zRL ((h.2.2.2 45 (x1.toNat)) * y0) ∧ (((zC ((h.2.2.2 45 (x1.toNat)) * y0) 4) ≤ 0 → (fx_V l M_MO_takeTag (0, 0) Q 0 0 97 [some (.ref 31), some (.int (zI x1)), none, none, some (.int (zI y0)), none] [.long (zL (x2 + 8)), .int (zI x1), .ref 46] h)) ∧ (¬ ((zC ((h.2.2.2 45 (x1.toNat)) * y0) 4) ≤ 0) → fx_Mt l M_MO_number (0, 0) [.ref 31, .long (zL (x2 + 8)), .int (zI 4)] h (fun v h6 => ∃ r8 : Int, v = some (.long (zL r8)) ∧ h6.1 = h.1 ∧ (fx_V l M_MO_takeTag (0, 0) Q 0 0 97 [some (.ref 31), some (.int (zI x1)), none, none, some (.int (zI y0)), none] [.long (zL r8), .int (zI x1), .ref 46] h6))))) :
    fx_V l M_MO_takeTag (0, 0) Q 0 0 55 [some (.ref 31), some (.int (zI x1)), some (.long (zL x2)), none, none, none] [.int (zI y0)] h := by
  refine fx_istore (ls2 := [some (.ref 31), some (.int (zI x1)), some (.long (zL x2)), none, some (.int (zI y0)), none]) d_MO_takeTag_55 (by decide) rfl ?_
  refine fx_aload_n (i := 0) d_MO_takeTag_57 rfl rfl ?_
  refine fx_getR (q := 46) d_MO_takeTag_58 lk_MO_73 (at_31 (h := _) hS) rfl rfl ?_
  refine fx_iload_n (i := 1) d_MO_takeTag_61 rfl rfl ?_
  refine fx_aload_n (i := 0) d_MO_takeTag_62 rfl rfl ?_
  refine fx_getR (q := 45) d_MO_takeTag_63 lk_MO_69 (at_31 (h := _) hS) rfl rfl ?_
  refine fx_iload_n (i := 1) d_MO_takeTag_66 rfl rfl ?_
  obtain ⟨hn1, H⟩ := H
  obtain ⟨hn2, H⟩ := H
  refine fx_lald d_MO_takeTag_67 (at_45 (h := _) hS) hn1 hn2 (by decide) ?_
  refine fx_iload d_MO_takeTag_68 rfl ?_
  obtain ⟨hz3, H⟩ := H
  refine fx_i2l d_MO_takeTag_70 hz3 ?_
  refine fx_lmul d_MO_takeTag_71 ?_
  refine fx_ldc2 (v := 4) d_MO_takeTag_72 (fx_in 1054 (by decide +kernel) rfl) ?_
  obtain ⟨hz4, H⟩ := H
  refine fx_lcmp d_MO_takeTag_75 hz4 (show zRL 4 by decide) ?_
  refine fx_if_le (t := 92) (n := 79) d_MO_takeTag_76 (zC_R _ _) (fun z5 => ?_) (fun z5 => ?_)
  · replace H := H.1 z5
    refine fx_lload_n (i := 2) d_MO_takeTag_92 rfl rfl ?_
    refine fx_ldc2 (v := 8) d_MO_takeTag_93 (fx_in 1184 (by decide +kernel) rfl) ?_
    refine fx_ladd d_MO_takeTag_96 ?_
    exact fx_fewer [some (.ref 31), some (.int (zI x1)), none, none, some (.int (zI y0)), none] ⟨rfl, rfl, rfl, trivial⟩ H
  · replace H := H.2 z5
    refine fx_aload_n (i := 0) d_MO_takeTag_79 rfl rfl ?_
    refine fx_lload_n (i := 2) d_MO_takeTag_80 rfl rfl ?_
    refine fx_ldc2 (v := 8) d_MO_takeTag_81 (fx_in 1184 (by decide +kernel) rfl) ?_
    refine fx_ladd d_MO_takeTag_84 ?_
    refine fx_iconst d_MO_takeTag_85 ?_
    refine fx_callV (M' := M_MO_number) (B' := (0, 0)) (vs := [.long (zL (x2 + 8)), .int (zI 4)]) (rest := [.int (zI x1), .ref 46]) (c1 := 0) (s1 := 0) (n := 89) d_MO_takeTag_86 ca_MO_takeTag_243 (at_31 (h := _) hS) rfl rfl rfl ⟨by decide, by decide⟩ (Nat.le_of_ble_eq_true rfl) (Or.inl rfl) (fx_Mt.mono H fun v h6 hv => ?_)
    obtain ⟨r8, rfl, e7, H⟩ := hv
    have hS6 := e7.trans hS
    show fx_V l M_MO_takeTag (0, 0) Q 0 0 89 [some (.ref 31), some (.int (zI x1)), some (.long (zL x2)), none, some (.int (zI y0)), none] [.long (zL r8), .int (zI x1), .ref 46] h6
    refine fx_goto (n := 97) d_MO_takeTag_89 ?_
    exact fx_fewer [some (.ref 31), some (.int (zI x1)), none, none, some (.int (zI y0)), none] ⟨rfl, rfl, rfl, trivial⟩ H

set_option maxRecDepth 100000 in
set_option maxHeartbeats 4000000 in
theorem w_MO_takeTag_97 {l : Launch} {Q : Option Value → fx_H → Prop} {h : fx_H}  {x1 : Int} {x4 : Int} {y0 : Int} {y1 : Int}  {a : Nat → Nat} {pp dd : Nat} (hS : h.1 = fx_S0 a pp dd) 
    (H : 0 ≤ y1 ∧ y1 < 9 ∧ zR x1 ∧ ((x1 = 5 → (fx_V l M_MO_takeTag (0, 0) Q 0 0 125 [some (.ref 31), some (.int (zI x1)), none, none, some (.int (zI x4)), none] [.int (zI 1)] (fx_uL h 46 (y1.toNat) y0))) ∧ (¬ (x1 = 5) → ((x1 = 7 → (fx_V l M_MO_takeTag (0, 0) Q 0 0 125 [some (.ref 31), some (.int (zI x1)), none, none, some (.int (zI x4)), none] [.int (zI 1)] (fx_uL h 46 (y1.toNat) y0))) ∧ (¬ (x1 = 7) → 0 ≤ x1 ∧ x1 < 9 ∧ zRL (h.2.2.2 45 (x1.toNat)) ∧ ((¬ (zC (h.2.2.2 45 (x1.toNat)) 1) = 0 → (fx_V l M_MO_takeTag (0, 0) Q 0 0 125 [some (.ref 31), some (.int (zI x1)), none, none, some (.int (zI x4)), none] [.int (zI 0)] (fx_uL h 46 (y1.toNat) y0))) ∧ ((zC (h.2.2.2 45 (x1.toNat)) 1) = 0 → (fx_V l M_MO_takeTag (0, 0) Q 0 0 125 [some (.ref 31), some (.int (zI x1)), none, none, some (.int (zI x4)), none] [.int (zI 1)] (fx_uL h 46 (y1.toNat) y0))))))))) :
    fx_V l M_MO_takeTag (0, 0) Q 0 0 97 [some (.ref 31), some (.int (zI x1)), none, none, some (.int (zI x4)), none] [.long (zL y0), .int (zI y1), .ref 46] h := by
  obtain ⟨hn1, H⟩ := H
  obtain ⟨hn2, H⟩ := H
  refine fx_last d_MO_takeTag_97 (at_46 (h := _) hS) hn1 hn2 (by decide) ?_
  refine fx_iload_n (i := 1) d_MO_takeTag_98 rfl rfl ?_
  refine fx_iconst d_MO_takeTag_99 ?_
  obtain ⟨hz3, H⟩ := H
  refine fx_icmp_eq (t := 120) (n := 103) d_MO_takeTag_100 hz3 (show zR 5 by decide) (fun z4 => ?_) (fun z4 => ?_)
  · replace H := H.1 z4
    refine fx_iconst d_MO_takeTag_120 ?_
    refine fx_goto (n := 125) d_MO_takeTag_121 ?_
    exact H
  · replace H := H.2 z4
    refine fx_iload_n (i := 1) d_MO_takeTag_103 rfl rfl ?_
    refine fx_bipush (v := 7) d_MO_takeTag_104 rfl ?_
    refine fx_icmp_eq (t := 120) (n := 109) d_MO_takeTag_106 hz3 (show zR 7 by decide) (fun z5 => ?_) (fun z5 => ?_)
    · replace H := H.1 z5
      refine fx_iconst d_MO_takeTag_120 ?_
      refine fx_goto (n := 125) d_MO_takeTag_121 ?_
      exact H
    · replace H := H.2 z5
      refine fx_aload_n (i := 0) d_MO_takeTag_109 rfl rfl ?_
      refine fx_getR (q := 45) d_MO_takeTag_110 lk_MO_69 (at_31 (h := _) hS) rfl rfl ?_
      refine fx_iload_n (i := 1) d_MO_takeTag_113 rfl rfl ?_
      obtain ⟨hn6, H⟩ := H
      obtain ⟨hn7, H⟩ := H
      refine fx_lald d_MO_takeTag_114 (at_45 (h := _) hS) hn6 hn7 (by decide) ?_
      refine fx_lconst (v := 1) d_MO_takeTag_115 rfl ?_
      obtain ⟨hz8, H⟩ := H
      refine fx_lcmp d_MO_takeTag_116 hz8 (show zRL 1 by decide) ?_
      refine fx_if_ne (t := 124) (n := 120) d_MO_takeTag_117 (zC_R _ _) (fun z9 => ?_) (fun z9 => ?_)
      · replace H := H.1 z9
        refine fx_iconst d_MO_takeTag_124 ?_
        exact H
      · replace H := H.2 z9
        refine fx_iconst d_MO_takeTag_120 ?_
        refine fx_goto (n := 125) d_MO_takeTag_121 ?_
        exact H

set_option maxRecDepth 100000 in
set_option maxHeartbeats 4000000 in
theorem w_MO_takeTag_125 {l : Launch} {Q : Option Value → fx_H → Prop} {h : fx_H}  {x1 : Int} {x4 : Int} {y0 : Int}  {a : Nat → Nat} {pp dd : Nat} (hS : h.1 = fx_S0 a pp dd) 
    (H : 0 ≤ x1 ∧ x1 < 9 ∧ zR (h.2.2.1 44 (x1.toNat)) ∧ (((h.2.2.1 44 (x1.toNat)) = 3 → zR y0 ∧ ((y0 = 0 → Q (some (.int (zI 0))) h) ∧ (¬ (y0 = 0) → 0 ≤ x1 ∧ x1 < 9 ∧ 0 ≤ x1 ∧ x1 < 9 ∧ zR x4 ∧ zR (h.2.1 31 5) ∧ zRL ((h.2.2.2 46 (x1.toNat)) + ((h.2.2.2 45 (x1.toNat)) * x4)) ∧ zRL (h.2.1 31 5) ∧ ((0 < (zC ((h.2.2.2 46 (x1.toNat)) + ((h.2.2.2 45 (x1.toNat)) * x4)) (h.2.1 31 5)) → Q (some (.int (zI 0))) h) ∧ (¬ (0 < (zC ((h.2.2.2 46 (x1.toNat)) + ((h.2.2.2 45 (x1.toNat)) * x4)) (h.2.1 31 5))) → Q (some (.int (zI 1))) h))))) ∧ (¬ ((h.2.2.1 44 (x1.toNat)) = 3) → 0 ≤ x1 ∧ x1 < 9 ∧ ((¬ (h.2.2.1 44 (x1.toNat)) = 4 → Q (some (.int (zI 0))) h) ∧ ((h.2.2.1 44 (x1.toNat)) = 4 → zR y0 ∧ ((y0 = 0 → Q (some (.int (zI 0))) h) ∧ (¬ (y0 = 0) → 0 ≤ x1 ∧ x1 < 9 ∧ 0 ≤ x1 ∧ x1 < 9 ∧ zR x4 ∧ zR (h.2.1 31 5) ∧ zRL ((h.2.2.2 46 (x1.toNat)) + ((h.2.2.2 45 (x1.toNat)) * x4)) ∧ zRL (h.2.1 31 5) ∧ ((0 < (zC ((h.2.2.2 46 (x1.toNat)) + ((h.2.2.2 45 (x1.toNat)) * x4)) (h.2.1 31 5)) → Q (some (.int (zI 0))) h) ∧ (¬ (0 < (zC ((h.2.2.2 46 (x1.toNat)) + ((h.2.2.2 45 (x1.toNat)) * x4)) (h.2.1 31 5))) → Q (some (.int (zI 1))) h))))))))) :
    fx_V l M_MO_takeTag (0, 0) Q 0 0 125 [some (.ref 31), some (.int (zI x1)), none, none, some (.int (zI x4)), none] [.int (zI y0)] h := by
  refine fx_istore (ls2 := [some (.ref 31), some (.int (zI x1)), none, none, some (.int (zI x4)), some (.int (zI y0))]) d_MO_takeTag_125 (by decide) rfl ?_
  refine fx_aload_n (i := 0) d_MO_takeTag_127 rfl rfl ?_
  refine fx_getR (q := 44) d_MO_takeTag_128 lk_MO_66 (at_31 (h := _) hS) rfl rfl ?_
  refine fx_iload_n (i := 1) d_MO_takeTag_131 rfl rfl ?_
  obtain ⟨hn1, H⟩ := H
  obtain ⟨hn2, H⟩ := H
  refine fx_iald d_MO_takeTag_132 (at_44 (h := _) hS) hn1 hn2 (by decide) ?_
  refine fx_iconst d_MO_takeTag_133 ?_
  obtain ⟨hz3, H⟩ := H
  refine fx_icmp_eq (t := 147) (n := 137) d_MO_takeTag_134 hz3 (show zR 3 by decide) (fun z4 => ?_) (fun z4 => ?_)
  · replace H := H.1 z4
    refine fx_iload d_MO_takeTag_147 rfl ?_
    obtain ⟨hz5, H⟩ := H
    refine fx_if_eq (t := 182) (n := 152) d_MO_takeTag_149 hz5 (fun z6 => ?_) (fun z6 => ?_)
    · replace H := H.1 z6
      refine fx_iconst d_MO_takeTag_182 ?_
      exact fx_end (some (.int (zI 0))) ⟨⟨_, rfl, rfl⟩, d_MO_takeTag_183⟩ (Nat.le_refl _) (Nat.le_refl _) rfl H
    · replace H := H.2 z6
      refine fx_aload_n (i := 0) d_MO_takeTag_152 rfl rfl ?_
      refine fx_getR (q := 46) d_MO_takeTag_153 lk_MO_73 (at_31 (h := _) hS) rfl rfl ?_
      refine fx_iload_n (i := 1) d_MO_takeTag_156 rfl rfl ?_
      obtain ⟨hn7, H⟩ := H
      obtain ⟨hn8, H⟩ := H
      refine fx_lald d_MO_takeTag_157 (at_46 (h := _) hS) hn7 hn8 (by decide) ?_
      refine fx_aload_n (i := 0) d_MO_takeTag_158 rfl rfl ?_
      refine fx_getR (q := 45) d_MO_takeTag_159 lk_MO_69 (at_31 (h := _) hS) rfl rfl ?_
      refine fx_iload_n (i := 1) d_MO_takeTag_162 rfl rfl ?_
      obtain ⟨hn9, H⟩ := H
      obtain ⟨hn10, H⟩ := H
      refine fx_lald d_MO_takeTag_163 (at_45 (h := _) hS) hn9 hn10 (by decide) ?_
      refine fx_iload d_MO_takeTag_164 rfl ?_
      obtain ⟨hz11, H⟩ := H
      refine fx_i2l d_MO_takeTag_166 hz11 ?_
      refine fx_lmul d_MO_takeTag_167 ?_
      refine fx_ladd d_MO_takeTag_168 ?_
      refine fx_aload_n (i := 0) d_MO_takeTag_169 rfl rfl ?_
      refine fx_getI d_MO_takeTag_170 lk_MO_105 (at_31 (h := _) hS) rfl ?_
      obtain ⟨hz12, H⟩ := H
      refine fx_i2l d_MO_takeTag_173 hz12 ?_
      obtain ⟨hz13, H⟩ := H
      obtain ⟨hz14, H⟩ := H
      refine fx_lcmp d_MO_takeTag_174 hz13 hz14 ?_
      refine fx_if_gt (t := 182) (n := 178) d_MO_takeTag_175 (zC_R _ _) (fun z15 => ?_) (fun z15 => ?_)
      · replace H := H.1 z15
        refine fx_iconst d_MO_takeTag_182 ?_
        exact fx_end (some (.int (zI 0))) ⟨⟨_, rfl, rfl⟩, d_MO_takeTag_183⟩ (Nat.le_refl _) (Nat.le_refl _) rfl H
      · replace H := H.2 z15
        refine fx_iconst d_MO_takeTag_178 ?_
        refine fx_goto (n := 183) d_MO_takeTag_179 ?_
        exact fx_end (some (.int (zI 1))) ⟨⟨_, rfl, rfl⟩, d_MO_takeTag_183⟩ (Nat.le_refl _) (Nat.le_refl _) rfl H
  · replace H := H.2 z4
    refine fx_aload_n (i := 0) d_MO_takeTag_137 rfl rfl ?_
    refine fx_getR (q := 44) d_MO_takeTag_138 lk_MO_66 (at_31 (h := _) hS) rfl rfl ?_
    refine fx_iload_n (i := 1) d_MO_takeTag_141 rfl rfl ?_
    obtain ⟨hn16, H⟩ := H
    obtain ⟨hn17, H⟩ := H
    refine fx_iald d_MO_takeTag_142 (at_44 (h := _) hS) hn16 hn17 (by decide) ?_
    refine fx_iconst d_MO_takeTag_143 ?_
    refine fx_icmp_ne (t := 182) (n := 147) d_MO_takeTag_144 hz3 (show zR 4 by decide) (fun z18 => ?_) (fun z18 => ?_)
    · replace H := H.1 z18
      refine fx_iconst d_MO_takeTag_182 ?_
      exact fx_end (some (.int (zI 0))) ⟨⟨_, rfl, rfl⟩, d_MO_takeTag_183⟩ (Nat.le_refl _) (Nat.le_refl _) rfl H
    · replace H := H.2 z18
      refine fx_iload d_MO_takeTag_147 rfl ?_
      obtain ⟨hz19, H⟩ := H
      refine fx_if_eq (t := 182) (n := 152) d_MO_takeTag_149 hz19 (fun z20 => ?_) (fun z20 => ?_)
      · replace H := H.1 z20
        refine fx_iconst d_MO_takeTag_182 ?_
        exact fx_end (some (.int (zI 0))) ⟨⟨_, rfl, rfl⟩, d_MO_takeTag_183⟩ (Nat.le_refl _) (Nat.le_refl _) rfl H
      · replace H := H.2 z20
        refine fx_aload_n (i := 0) d_MO_takeTag_152 rfl rfl ?_
        refine fx_getR (q := 46) d_MO_takeTag_153 lk_MO_73 (at_31 (h := _) hS) rfl rfl ?_
        refine fx_iload_n (i := 1) d_MO_takeTag_156 rfl rfl ?_
        obtain ⟨hn21, H⟩ := H
        obtain ⟨hn22, H⟩ := H
        refine fx_lald d_MO_takeTag_157 (at_46 (h := _) hS) hn21 hn22 (by decide) ?_
        refine fx_aload_n (i := 0) d_MO_takeTag_158 rfl rfl ?_
        refine fx_getR (q := 45) d_MO_takeTag_159 lk_MO_69 (at_31 (h := _) hS) rfl rfl ?_
        refine fx_iload_n (i := 1) d_MO_takeTag_162 rfl rfl ?_
        obtain ⟨hn23, H⟩ := H
        obtain ⟨hn24, H⟩ := H
        refine fx_lald d_MO_takeTag_163 (at_45 (h := _) hS) hn23 hn24 (by decide) ?_
        refine fx_iload d_MO_takeTag_164 rfl ?_
        obtain ⟨hz25, H⟩ := H
        refine fx_i2l d_MO_takeTag_166 hz25 ?_
        refine fx_lmul d_MO_takeTag_167 ?_
        refine fx_ladd d_MO_takeTag_168 ?_
        refine fx_aload_n (i := 0) d_MO_takeTag_169 rfl rfl ?_
        refine fx_getI d_MO_takeTag_170 lk_MO_105 (at_31 (h := _) hS) rfl ?_
        obtain ⟨hz26, H⟩ := H
        refine fx_i2l d_MO_takeTag_173 hz26 ?_
        obtain ⟨hz27, H⟩ := H
        obtain ⟨hz28, H⟩ := H
        refine fx_lcmp d_MO_takeTag_174 hz27 hz28 ?_
        refine fx_if_gt (t := 182) (n := 178) d_MO_takeTag_175 (zC_R _ _) (fun z29 => ?_) (fun z29 => ?_)
        · replace H := H.1 z29
          refine fx_iconst d_MO_takeTag_182 ?_
          exact fx_end (some (.int (zI 0))) ⟨⟨_, rfl, rfl⟩, d_MO_takeTag_183⟩ (Nat.le_refl _) (Nat.le_refl _) rfl H
        · replace H := H.2 z29
          refine fx_iconst d_MO_takeTag_178 ?_
          refine fx_goto (n := 183) d_MO_takeTag_179 ?_
          exact fx_end (some (.int (zI 1))) ⟨⟨_, rfl, rfl⟩, d_MO_takeTag_183⟩ (Nat.le_refl _) (Nat.le_refl _) rfl H

set_option maxRecDepth 100000 in
set_option maxHeartbeats 4000000 in
theorem e_MO_fit {l : Launch} {Q : Option Value → fx_H → Prop} {h : fx_H}    {a : Nat → Nat} {pp dd : Nat} (hS : h.1 = fx_S0 a pp dd) 
    (H : (fx_V l M_MO_fit (0, 0) Q 0 0 2 [some (.ref 31), some (.int (zI 0)), none, none, none, none] [] h)) :
    fx_Mt l M_MO_fit (0, 0) [.ref 31] h Q := by
  refine fx_entry (ls := [some (.ref 31), none, none, none, none, none]) (by decide) (Nat.le_of_ble_eq_true rfl) rfl ?_
  refine fx_iconst d_MO_fit_0 ?_
  refine fx_istore_n (i := 1) (ls2 := [some (.ref 31), some (.int (zI 0)), none, none, none, none]) d_MO_fit_1 rfl (by decide) rfl ?_
  exact H

set_option maxRecDepth 100000 in
set_option maxHeartbeats 4000000 in
theorem w_MO_fit_2 {l : Launch} {Q : Option Value → fx_H → Prop} {h : fx_H}  {x1 : Int}  {a : Nat → Nat} {pp dd : Nat} (hS : h.1 = fx_S0 a pp dd) 
    (H : zR x1 ∧ ((8 ≤ x1 → fx_Mt l M_MO_value (0, 0) [.ref 31, .int (zI 2), .int (zI 0)] h (fun v h3 => ∃ r5 : Int, v = some (.long (zL r5)) ∧ h3.1 = h.1 ∧ zRL r5 ∧ ((¬ (zC r5 8) = 0 → (fx_V l M_MO_fit (0, 0) Q 0 0 46 [some (.ref 31), some (.long (zL r5)), none, none, none, none] [.int (zI 0), .ref 31] h3)) ∧ ((zC r5 8) = 0 → (fx_V l M_MO_fit (0, 0) Q 0 0 46 [some (.ref 31), some (.long (zL r5)), none, none, none, none] [.int (zI 1), .ref 31] h3))))) ∧ (¬ (8 ≤ x1) → 0 ≤ x1 ∧ x1 < 9 ∧ zR (h.2.2.1 43 (x1.toNat)) ∧ ((¬ (h.2.2.1 43 (x1.toNat)) = 0 → (fx_V l M_MO_fit (0, 0) Q 0 0 2 [some (.ref 31), some (.int (zI (x1 + 1))), none, none, none, none] [] h)) ∧ ((h.2.2.1 43 (x1.toNat)) = 0 → Q (some (.int (zI 0))) h))))) :
    fx_V l M_MO_fit (0, 0) Q 0 0 2 [some (.ref 31), some (.int (zI x1)), none, none, none, none] [] h := by
  refine fx_iload_n (i := 1) d_MO_fit_2 rfl rfl ?_
  refine fx_bipush (v := 8) d_MO_fit_3 rfl ?_
  obtain ⟨hz1, H⟩ := H
  refine fx_icmp_ge (t := 25) (n := 8) d_MO_fit_5 hz1 (show zR 8 by decide) (fun z2 => ?_) (fun z2 => ?_)
  · replace H := H.1 z2
    refine fx_aload_n (i := 0) d_MO_fit_25 rfl rfl ?_
    refine fx_iconst d_MO_fit_26 ?_
    refine fx_iconst d_MO_fit_27 ?_
    refine fx_callV (M' := M_MO_value) (B' := (0, 0)) (vs := [.int (zI 2), .int (zI 0)]) (rest := []) (c1 := 0) (s1 := 0) (n := 31) d_MO_fit_28 ca_MO_fit_260 (at_31 (h := _) hS) rfl rfl rfl ⟨by decide, by decide⟩ (Nat.le_of_ble_eq_true rfl) (Or.inl rfl) (fx_Mt.mono H fun v h3 hv => ?_)
    obtain ⟨r5, rfl, e4, H⟩ := hv
    have hS3 := e4.trans hS
    show fx_V l M_MO_fit (0, 0) Q 0 0 31 [some (.ref 31), some (.int (zI x1)), none, none, none, none] [.long (zL r5)] h3
    refine fx_lstore_n (i := 1) (ls2 := [some (.ref 31), some (.long (zL r5)), none, none, none, none]) d_MO_fit_31 rfl (by decide) rfl ?_
    refine fx_aload_n (i := 0) d_MO_fit_32 rfl rfl ?_
    refine fx_lload_n (i := 1) d_MO_fit_33 rfl rfl ?_
    refine fx_ldc2 (v := 8) d_MO_fit_34 (fx_in 1184 (by decide +kernel) rfl) ?_
    obtain ⟨hz6, H⟩ := H
    refine fx_lcmp d_MO_fit_37 hz6 (show zRL 8 by decide) ?_
    refine fx_if_ne (t := 45) (n := 41) d_MO_fit_38 (zC_R _ _) (fun z7 => ?_) (fun z7 => ?_)
    · replace H := H.1 z7
      refine fx_iconst d_MO_fit_45 ?_
      exact H
    · replace H := H.2 z7
      refine fx_iconst d_MO_fit_41 ?_
      refine fx_goto (n := 46) d_MO_fit_42 ?_
      exact H
  · replace H := H.2 z2
    refine fx_aload_n (i := 0) d_MO_fit_8 rfl rfl ?_
    refine fx_getR (q := 43) d_MO_fit_9 lk_MO_62 (at_31 (h := _) hS) rfl rfl ?_
    refine fx_iload_n (i := 1) d_MO_fit_12 rfl rfl ?_
    obtain ⟨hn8, H⟩ := H
    obtain ⟨hn9, H⟩ := H
    refine fx_zald d_MO_fit_13 (at_43 (h := _) hS) hn8 hn9 (by decide) ?_
    obtain ⟨hz10, H⟩ := H
    refine fx_if_ne (t := 19) (n := 17) d_MO_fit_14 hz10 (fun z11 => ?_) (fun z11 => ?_)
    · replace H := H.1 z11
      refine fx_iinc (v := x1 + 1) (ls2 := [some (.ref 31), some (.int (zI (x1 + 1))), none, none, none, none]) d_MO_fit_19 rfl rfl (by decide) rfl ?_
      refine fx_goto (n := 2) d_MO_fit_22 ?_
      exact H
    · replace H := H.2 z11
      refine fx_iconst d_MO_fit_17 ?_
      exact fx_end (some (.int (zI 0))) ⟨⟨_, rfl, rfl⟩, d_MO_fit_18⟩ (Nat.le_refl _) (Nat.le_refl _) rfl H

set_option maxRecDepth 100000 in
set_option maxHeartbeats 4000000 in
theorem w_MO_fit_46 {l : Launch} {Q : Option Value → fx_H → Prop} {h : fx_H}  {x1 : Int} {y0 : Int}  {a : Nat → Nat} {pp dd : Nat} (hS : h.1 = fx_S0 a pp dd) 
    (H : (y0 = 0 ∨ y0 = 1) ∧ zRL x1 ∧ (((zC x1 1) = 0 → fx_Mt l M_MO_value (0, 0) [.ref 31, .int (zI 0), .int (zI 0)] (fx_uF h 31 14 y0) (fun v h4 => ∃ r6 : Int, v = some (.long (zL r6)) ∧ h4.1 = (fx_uF h 31 14 y0).1 ∧ fx_Mt l M_MO_value (0, 0) [.ref 31, .int (zI 1), .int (zI 0)] h4 (fun v h7 => ∃ r9 : Int, v = some (.long (zL r9)) ∧ h7.1 = h4.1 ∧ fx_Mt l M_MO_isSize (0, 0) [.int (zI y0), .long (zL r6), .long (zL r9)] h7 (fun v h10 => ∃ r12 : Int, v = some (.int (zI r12)) ∧ h10.1 = h7.1 ∧ zR r12 ∧ ((r12 = 0 → (fx_V l M_MO_fit (0, 0) Q 0 0 124 [some (.ref 31), none, none, none, none, none] [.int (zI 0)] h10)) ∧ (¬ (r12 = 0) → fx_Mt l M_MO_value (0, 0) [.ref 31, .int (zI 3), .int (zI 0)] h10 (fun v h15 => ∃ r17 : Int, v = some (.long (zL r17)) ∧ h15.1 = h10.1 ∧ fx_Mt l M_MO_isScheme (0, 0) [.long (zL r17)] h15 (fun v h18 => ∃ r20 : Int, v = some (.int (zI r20)) ∧ h18.1 = h15.1 ∧ zR r20 ∧ ((r20 = 0 → (fx_V l M_MO_fit (0, 0) Q 0 0 124 [some (.ref 31), none, none, none, none, none] [.int (zI 0)] h18)) ∧ (¬ (r20 = 0) → fx_Mt l M_MO_value (0, 0) [.ref 31, .int (zI 4), .int (zI 0)] h18 (fun v h23 => ∃ r25 : Int, v = some (.long (zL r25)) ∧ h23.1 = h18.1 ∧ zR (h23.2.1 31 14) ∧ (((h23.2.1 31 14) = 0 → (fx_V l M_MO_fit (0, 0) Q 0 0 115 [some (.ref 31), none, none, none, none, none] [.long (zL 0), .long (zL r25)] h23)) ∧ (¬ ((h23.2.1 31 14) = 0) → (fx_V l M_MO_fit (0, 0) Q 0 0 115 [some (.ref 31), none, none, none, none, none] [.long (zL 1), .long (zL r25)] h23)))))))))))))) ∧ (¬ ((zC x1 1) = 0) → ((¬ (zC x1 8) = 0 → (fx_V l M_MO_fit (0, 0) Q 0 0 124 [some (.ref 31), none, none, none, none, none] [.int (zI 0)] (fx_uF h 31 14 y0))) ∧ ((zC x1 8) = 0 → fx_Mt l M_MO_value (0, 0) [.ref 31, .int (zI 0), .int (zI 0)] (fx_uF h 31 14 y0) (fun v h29 => ∃ r31 : Int, v = some (.long (zL r31)) ∧ h29.1 = (fx_uF h 31 14 y0).1 ∧ fx_Mt l M_MO_value (0, 0) [.ref 31, .int (zI 1), .int (zI 0)] h29 (fun v h32 => ∃ r34 : Int, v = some (.long (zL r34)) ∧ h32.1 = h29.1 ∧ fx_Mt l M_MO_isSize (0, 0) [.int (zI y0), .long (zL r31), .long (zL r34)] h32 (fun v h35 => ∃ r37 : Int, v = some (.int (zI r37)) ∧ h35.1 = h32.1 ∧ zR r37 ∧ ((r37 = 0 → (fx_V l M_MO_fit (0, 0) Q 0 0 124 [some (.ref 31), none, none, none, none, none] [.int (zI 0)] h35)) ∧ (¬ (r37 = 0) → fx_Mt l M_MO_value (0, 0) [.ref 31, .int (zI 3), .int (zI 0)] h35 (fun v h40 => ∃ r42 : Int, v = some (.long (zL r42)) ∧ h40.1 = h35.1 ∧ fx_Mt l M_MO_isScheme (0, 0) [.long (zL r42)] h40 (fun v h43 => ∃ r45 : Int, v = some (.int (zI r45)) ∧ h43.1 = h40.1 ∧ zR r45 ∧ ((r45 = 0 → (fx_V l M_MO_fit (0, 0) Q 0 0 124 [some (.ref 31), none, none, none, none, none] [.int (zI 0)] h43)) ∧ (¬ (r45 = 0) → fx_Mt l M_MO_value (0, 0) [.ref 31, .int (zI 4), .int (zI 0)] h43 (fun v h48 => ∃ r50 : Int, v = some (.long (zL r50)) ∧ h48.1 = h43.1 ∧ zR (h48.2.1 31 14) ∧ (((h48.2.1 31 14) = 0 → (fx_V l M_MO_fit (0, 0) Q 0 0 115 [some (.ref 31), none, none, none, none, none] [.long (zL 0), .long (zL r50)] h48)) ∧ (¬ ((h48.2.1 31 14) = 0) → (fx_V l M_MO_fit (0, 0) Q 0 0 115 [some (.ref 31), none, none, none, none, none] [.long (zL 1), .long (zL r50)] h48)))))))))))))))))) :
    fx_V l M_MO_fit (0, 0) Q 0 0 46 [some (.ref 31), some (.long (zL x1)), none, none, none, none] [.int (zI y0), .ref 31] h := by
  obtain ⟨hn1, H⟩ := H
  refine fx_putI d_MO_fit_46 lk_MO_128 (at_31 (h := _) hS) rfl (fx_nb hn1) (fx_fb hn1) ?_
  refine fx_lload_n (i := 1) d_MO_fit_49 rfl rfl ?_
  refine fx_lconst (v := 1) d_MO_fit_50 rfl ?_
  obtain ⟨hz2, H⟩ := H
  refine fx_lcmp d_MO_fit_51 hz2 (show zRL 1 by decide) ?_
  refine fx_if_eq (t := 63) (n := 55) d_MO_fit_52 (zC_R _ _) (fun z3 => ?_) (fun z3 => ?_)
  · replace H := H.1 z3
    refine fx_aload_n (i := 0) d_MO_fit_63 rfl rfl ?_
    refine fx_getI d_MO_fit_64 lk_MO_128 (at_31 (h := _) hS) rfl ?_
    refine fx_aload_n (i := 0) d_MO_fit_67 rfl rfl ?_
    refine fx_iconst d_MO_fit_68 ?_
    refine fx_iconst d_MO_fit_69 ?_
    refine fx_callV (M' := M_MO_value) (B' := (0, 0)) (vs := [.int (zI 0), .int (zI 0)]) (rest := [.int (zI y0)]) (c1 := 0) (s1 := 0) (n := 73) d_MO_fit_70 ca_MO_fit_260 (at_31 (h := _) hS) rfl rfl rfl ⟨by decide, by decide⟩ (Nat.le_of_ble_eq_true rfl) (Or.inl rfl) (fx_Mt.mono H fun v h4 hv => ?_)
    obtain ⟨r6, rfl, e5, H⟩ := hv
    have hS4 := e5.trans hS
    show fx_V l M_MO_fit (0, 0) Q 0 0 73 [some (.ref 31), some (.long (zL x1)), none, none, none, none] [.long (zL r6), .int (zI y0)] h4
    refine fx_aload_n (i := 0) d_MO_fit_73 rfl rfl ?_
    refine fx_iconst d_MO_fit_74 ?_
    refine fx_iconst d_MO_fit_75 ?_
    refine fx_callV (M' := M_MO_value) (B' := (0, 0)) (vs := [.int (zI 1), .int (zI 0)]) (rest := [.long (zL r6), .int (zI y0)]) (c1 := 0) (s1 := 0) (n := 79) d_MO_fit_76 ca_MO_fit_260 (at_31 (h := _) hS4) rfl rfl rfl ⟨by decide, by decide⟩ (Nat.le_of_ble_eq_true rfl) (Or.inl rfl) (fx_Mt.mono H fun v h7 hv => ?_)
    obtain ⟨r9, rfl, e8, H⟩ := hv
    have hS7 := e8.trans hS4
    show fx_V l M_MO_fit (0, 0) Q 0 0 79 [some (.ref 31), some (.long (zL x1)), none, none, none, none] [.long (zL r9), .long (zL r6), .int (zI y0)] h7
    refine fx_callS (M' := M_MO_isSize) (B' := (0, 0)) (vs := [.int (zI y0), .long (zL r6), .long (zL r9)]) (rest := []) (c1 := 0) (s1 := 0) (n := 82) d_MO_fit_79 ca_MO_fit_89 rfl rfl ⟨by decide, by decide⟩ (Nat.le_of_ble_eq_true rfl) (Or.inl rfl) (fx_Mt.mono H fun v h10 hv => ?_)
    obtain ⟨r12, rfl, e11, H⟩ := hv
    have hS10 := e11.trans hS7
    show fx_V l M_MO_fit (0, 0) Q 0 0 82 [some (.ref 31), some (.long (zL x1)), none, none, none, none] [.int (zI r12)] h10
    obtain ⟨hz13, H⟩ := H
    refine fx_if_eq (t := 123) (n := 85) d_MO_fit_82 hz13 (fun z14 => ?_) (fun z14 => ?_)
    · replace H := H.1 z14
      refine fx_iconst d_MO_fit_123 ?_
      exact fx_fewer [some (.ref 31), none, none, none, none, none] ⟨rfl, trivial⟩ H
    · replace H := H.2 z14
      refine fx_aload_n (i := 0) d_MO_fit_85 rfl rfl ?_
      refine fx_iconst d_MO_fit_86 ?_
      refine fx_iconst d_MO_fit_87 ?_
      refine fx_callV (M' := M_MO_value) (B' := (0, 0)) (vs := [.int (zI 3), .int (zI 0)]) (rest := []) (c1 := 0) (s1 := 0) (n := 91) d_MO_fit_88 ca_MO_fit_260 (at_31 (h := _) hS10) rfl rfl rfl ⟨by decide, by decide⟩ (Nat.le_of_ble_eq_true rfl) (Or.inl rfl) (fx_Mt.mono H fun v h15 hv => ?_)
      obtain ⟨r17, rfl, e16, H⟩ := hv
      have hS15 := e16.trans hS10
      show fx_V l M_MO_fit (0, 0) Q 0 0 91 [some (.ref 31), some (.long (zL x1)), none, none, none, none] [.long (zL r17)] h15
      refine fx_callS (M' := M_MO_isScheme) (B' := (0, 0)) (vs := [.long (zL r17)]) (rest := []) (c1 := 0) (s1 := 0) (n := 94) d_MO_fit_91 ca_MO_fit_222 rfl rfl ⟨by decide, by decide⟩ (Nat.le_of_ble_eq_true rfl) (Or.inl rfl) (fx_Mt.mono H fun v h18 hv => ?_)
      obtain ⟨r20, rfl, e19, H⟩ := hv
      have hS18 := e19.trans hS15
      show fx_V l M_MO_fit (0, 0) Q 0 0 94 [some (.ref 31), some (.long (zL x1)), none, none, none, none] [.int (zI r20)] h18
      obtain ⟨hz21, H⟩ := H
      refine fx_if_eq (t := 123) (n := 97) d_MO_fit_94 hz21 (fun z22 => ?_) (fun z22 => ?_)
      · replace H := H.1 z22
        refine fx_iconst d_MO_fit_123 ?_
        exact fx_fewer [some (.ref 31), none, none, none, none, none] ⟨rfl, trivial⟩ H
      · replace H := H.2 z22
        refine fx_aload_n (i := 0) d_MO_fit_97 rfl rfl ?_
        refine fx_iconst d_MO_fit_98 ?_
        refine fx_iconst d_MO_fit_99 ?_
        refine fx_callV (M' := M_MO_value) (B' := (0, 0)) (vs := [.int (zI 4), .int (zI 0)]) (rest := []) (c1 := 0) (s1 := 0) (n := 103) d_MO_fit_100 ca_MO_fit_260 (at_31 (h := _) hS18) rfl rfl rfl ⟨by decide, by decide⟩ (Nat.le_of_ble_eq_true rfl) (Or.inl rfl) (fx_Mt.mono H fun v h23 hv => ?_)
        obtain ⟨r25, rfl, e24, H⟩ := hv
        have hS23 := e24.trans hS18
        show fx_V l M_MO_fit (0, 0) Q 0 0 103 [some (.ref 31), some (.long (zL x1)), none, none, none, none] [.long (zL r25)] h23
        refine fx_aload_n (i := 0) d_MO_fit_103 rfl rfl ?_
        refine fx_getI d_MO_fit_104 lk_MO_128 (at_31 (h := _) hS23) rfl ?_
        obtain ⟨hz26, H⟩ := H
        refine fx_if_eq (t := 114) (n := 110) d_MO_fit_107 hz26 (fun z27 => ?_) (fun z27 => ?_)
        · replace H := H.1 z27
          refine fx_lconst (v := 0) d_MO_fit_114 rfl ?_
          exact fx_fewer [some (.ref 31), none, none, none, none, none] ⟨rfl, trivial⟩ H
        · replace H := H.2 z27
          refine fx_lconst (v := 1) d_MO_fit_110 rfl ?_
          refine fx_goto (n := 115) d_MO_fit_111 ?_
          exact fx_fewer [some (.ref 31), none, none, none, none, none] ⟨rfl, trivial⟩ H
  · replace H := H.2 z3
    refine fx_lload_n (i := 1) d_MO_fit_55 rfl rfl ?_
    refine fx_ldc2 (v := 8) d_MO_fit_56 (fx_in 1184 (by decide +kernel) rfl) ?_
    refine fx_lcmp d_MO_fit_59 hz2 (show zRL 8 by decide) ?_
    refine fx_if_ne (t := 123) (n := 63) d_MO_fit_60 (zC_R _ _) (fun z28 => ?_) (fun z28 => ?_)
    · replace H := H.1 z28
      refine fx_iconst d_MO_fit_123 ?_
      exact fx_fewer [some (.ref 31), none, none, none, none, none] ⟨rfl, trivial⟩ H
    · replace H := H.2 z28
      refine fx_aload_n (i := 0) d_MO_fit_63 rfl rfl ?_
      refine fx_getI d_MO_fit_64 lk_MO_128 (at_31 (h := _) hS) rfl ?_
      refine fx_aload_n (i := 0) d_MO_fit_67 rfl rfl ?_
      refine fx_iconst d_MO_fit_68 ?_
      refine fx_iconst d_MO_fit_69 ?_
      refine fx_callV (M' := M_MO_value) (B' := (0, 0)) (vs := [.int (zI 0), .int (zI 0)]) (rest := [.int (zI y0)]) (c1 := 0) (s1 := 0) (n := 73) d_MO_fit_70 ca_MO_fit_260 (at_31 (h := _) hS) rfl rfl rfl ⟨by decide, by decide⟩ (Nat.le_of_ble_eq_true rfl) (Or.inl rfl) (fx_Mt.mono H fun v h29 hv => ?_)
      obtain ⟨r31, rfl, e30, H⟩ := hv
      have hS29 := e30.trans hS
      show fx_V l M_MO_fit (0, 0) Q 0 0 73 [some (.ref 31), some (.long (zL x1)), none, none, none, none] [.long (zL r31), .int (zI y0)] h29
      refine fx_aload_n (i := 0) d_MO_fit_73 rfl rfl ?_
      refine fx_iconst d_MO_fit_74 ?_
      refine fx_iconst d_MO_fit_75 ?_
      refine fx_callV (M' := M_MO_value) (B' := (0, 0)) (vs := [.int (zI 1), .int (zI 0)]) (rest := [.long (zL r31), .int (zI y0)]) (c1 := 0) (s1 := 0) (n := 79) d_MO_fit_76 ca_MO_fit_260 (at_31 (h := _) hS29) rfl rfl rfl ⟨by decide, by decide⟩ (Nat.le_of_ble_eq_true rfl) (Or.inl rfl) (fx_Mt.mono H fun v h32 hv => ?_)
      obtain ⟨r34, rfl, e33, H⟩ := hv
      have hS32 := e33.trans hS29
      show fx_V l M_MO_fit (0, 0) Q 0 0 79 [some (.ref 31), some (.long (zL x1)), none, none, none, none] [.long (zL r34), .long (zL r31), .int (zI y0)] h32
      refine fx_callS (M' := M_MO_isSize) (B' := (0, 0)) (vs := [.int (zI y0), .long (zL r31), .long (zL r34)]) (rest := []) (c1 := 0) (s1 := 0) (n := 82) d_MO_fit_79 ca_MO_fit_89 rfl rfl ⟨by decide, by decide⟩ (Nat.le_of_ble_eq_true rfl) (Or.inl rfl) (fx_Mt.mono H fun v h35 hv => ?_)
      obtain ⟨r37, rfl, e36, H⟩ := hv
      have hS35 := e36.trans hS32
      show fx_V l M_MO_fit (0, 0) Q 0 0 82 [some (.ref 31), some (.long (zL x1)), none, none, none, none] [.int (zI r37)] h35
      obtain ⟨hz38, H⟩ := H
      refine fx_if_eq (t := 123) (n := 85) d_MO_fit_82 hz38 (fun z39 => ?_) (fun z39 => ?_)
      · replace H := H.1 z39
        refine fx_iconst d_MO_fit_123 ?_
        exact fx_fewer [some (.ref 31), none, none, none, none, none] ⟨rfl, trivial⟩ H
      · replace H := H.2 z39
        refine fx_aload_n (i := 0) d_MO_fit_85 rfl rfl ?_
        refine fx_iconst d_MO_fit_86 ?_
        refine fx_iconst d_MO_fit_87 ?_
        refine fx_callV (M' := M_MO_value) (B' := (0, 0)) (vs := [.int (zI 3), .int (zI 0)]) (rest := []) (c1 := 0) (s1 := 0) (n := 91) d_MO_fit_88 ca_MO_fit_260 (at_31 (h := _) hS35) rfl rfl rfl ⟨by decide, by decide⟩ (Nat.le_of_ble_eq_true rfl) (Or.inl rfl) (fx_Mt.mono H fun v h40 hv => ?_)
        obtain ⟨r42, rfl, e41, H⟩ := hv
        have hS40 := e41.trans hS35
        show fx_V l M_MO_fit (0, 0) Q 0 0 91 [some (.ref 31), some (.long (zL x1)), none, none, none, none] [.long (zL r42)] h40
        refine fx_callS (M' := M_MO_isScheme) (B' := (0, 0)) (vs := [.long (zL r42)]) (rest := []) (c1 := 0) (s1 := 0) (n := 94) d_MO_fit_91 ca_MO_fit_222 rfl rfl ⟨by decide, by decide⟩ (Nat.le_of_ble_eq_true rfl) (Or.inl rfl) (fx_Mt.mono H fun v h43 hv => ?_)
        obtain ⟨r45, rfl, e44, H⟩ := hv
        have hS43 := e44.trans hS40
        show fx_V l M_MO_fit (0, 0) Q 0 0 94 [some (.ref 31), some (.long (zL x1)), none, none, none, none] [.int (zI r45)] h43
        obtain ⟨hz46, H⟩ := H
        refine fx_if_eq (t := 123) (n := 97) d_MO_fit_94 hz46 (fun z47 => ?_) (fun z47 => ?_)
        · replace H := H.1 z47
          refine fx_iconst d_MO_fit_123 ?_
          exact fx_fewer [some (.ref 31), none, none, none, none, none] ⟨rfl, trivial⟩ H
        · replace H := H.2 z47
          refine fx_aload_n (i := 0) d_MO_fit_97 rfl rfl ?_
          refine fx_iconst d_MO_fit_98 ?_
          refine fx_iconst d_MO_fit_99 ?_
          refine fx_callV (M' := M_MO_value) (B' := (0, 0)) (vs := [.int (zI 4), .int (zI 0)]) (rest := []) (c1 := 0) (s1 := 0) (n := 103) d_MO_fit_100 ca_MO_fit_260 (at_31 (h := _) hS43) rfl rfl rfl ⟨by decide, by decide⟩ (Nat.le_of_ble_eq_true rfl) (Or.inl rfl) (fx_Mt.mono H fun v h48 hv => ?_)
          obtain ⟨r50, rfl, e49, H⟩ := hv
          have hS48 := e49.trans hS43
          show fx_V l M_MO_fit (0, 0) Q 0 0 103 [some (.ref 31), some (.long (zL x1)), none, none, none, none] [.long (zL r50)] h48
          refine fx_aload_n (i := 0) d_MO_fit_103 rfl rfl ?_
          refine fx_getI d_MO_fit_104 lk_MO_128 (at_31 (h := _) hS48) rfl ?_
          obtain ⟨hz51, H⟩ := H
          refine fx_if_eq (t := 114) (n := 110) d_MO_fit_107 hz51 (fun z52 => ?_) (fun z52 => ?_)
          · replace H := H.1 z52
            refine fx_lconst (v := 0) d_MO_fit_114 rfl ?_
            exact fx_fewer [some (.ref 31), none, none, none, none, none] ⟨rfl, trivial⟩ H
          · replace H := H.2 z52
            refine fx_lconst (v := 1) d_MO_fit_110 rfl ?_
            refine fx_goto (n := 115) d_MO_fit_111 ?_
            exact fx_fewer [some (.ref 31), none, none, none, none, none] ⟨rfl, trivial⟩ H

set_option maxRecDepth 100000 in
set_option maxHeartbeats 4000000 in
theorem w_MO_fit_63 {l : Launch} {Q : Option Value → fx_H → Prop} {h : fx_H}    {a : Nat → Nat} {pp dd : Nat} (hS : h.1 = fx_S0 a pp dd) 
    (H : fx_Mt l M_MO_value (0, 0) [.ref 31, .int (zI 0), .int (zI 0)] h (fun v h1 => ∃ r3 : Int, v = some (.long (zL r3)) ∧ h1.1 = h.1 ∧ fx_Mt l M_MO_value (0, 0) [.ref 31, .int (zI 1), .int (zI 0)] h1 (fun v h4 => ∃ r6 : Int, v = some (.long (zL r6)) ∧ h4.1 = h1.1 ∧ fx_Mt l M_MO_isSize (0, 0) [.int (zI (h.2.1 31 14)), .long (zL r3), .long (zL r6)] h4 (fun v h7 => ∃ r9 : Int, v = some (.int (zI r9)) ∧ h7.1 = h4.1 ∧ zR r9 ∧ ((r9 = 0 → (fx_V l M_MO_fit (0, 0) Q 0 0 124 [some (.ref 31), none, none, none, none, none] [.int (zI 0)] h7)) ∧ (¬ (r9 = 0) → fx_Mt l M_MO_value (0, 0) [.ref 31, .int (zI 3), .int (zI 0)] h7 (fun v h12 => ∃ r14 : Int, v = some (.long (zL r14)) ∧ h12.1 = h7.1 ∧ fx_Mt l M_MO_isScheme (0, 0) [.long (zL r14)] h12 (fun v h15 => ∃ r17 : Int, v = some (.int (zI r17)) ∧ h15.1 = h12.1 ∧ zR r17 ∧ ((r17 = 0 → (fx_V l M_MO_fit (0, 0) Q 0 0 124 [some (.ref 31), none, none, none, none, none] [.int (zI 0)] h15)) ∧ (¬ (r17 = 0) → fx_Mt l M_MO_value (0, 0) [.ref 31, .int (zI 4), .int (zI 0)] h15 (fun v h20 => ∃ r22 : Int, v = some (.long (zL r22)) ∧ h20.1 = h15.1 ∧ zR (h20.2.1 31 14) ∧ (((h20.2.1 31 14) = 0 → (fx_V l M_MO_fit (0, 0) Q 0 0 115 [some (.ref 31), none, none, none, none, none] [.long (zL 0), .long (zL r22)] h20)) ∧ (¬ ((h20.2.1 31 14) = 0) → (fx_V l M_MO_fit (0, 0) Q 0 0 115 [some (.ref 31), none, none, none, none, none] [.long (zL 1), .long (zL r22)] h20)))))))))))))) :
    fx_V l M_MO_fit (0, 0) Q 0 0 63 [some (.ref 31), none, none, none, none, none] [] h := by
  refine fx_aload_n (i := 0) d_MO_fit_63 rfl rfl ?_
  refine fx_getI d_MO_fit_64 lk_MO_128 (at_31 (h := _) hS) rfl ?_
  refine fx_aload_n (i := 0) d_MO_fit_67 rfl rfl ?_
  refine fx_iconst d_MO_fit_68 ?_
  refine fx_iconst d_MO_fit_69 ?_
  refine fx_callV (M' := M_MO_value) (B' := (0, 0)) (vs := [.int (zI 0), .int (zI 0)]) (rest := [.int (zI (h.2.1 31 14))]) (c1 := 0) (s1 := 0) (n := 73) d_MO_fit_70 ca_MO_fit_260 (at_31 (h := _) hS) rfl rfl rfl ⟨by decide, by decide⟩ (Nat.le_of_ble_eq_true rfl) (Or.inl rfl) (fx_Mt.mono H fun v h1 hv => ?_)
  obtain ⟨r3, rfl, e2, H⟩ := hv
  have hS1 := e2.trans hS
  show fx_V l M_MO_fit (0, 0) Q 0 0 73 [some (.ref 31), none, none, none, none, none] [.long (zL r3), .int (zI (h.2.1 31 14))] h1
  refine fx_aload_n (i := 0) d_MO_fit_73 rfl rfl ?_
  refine fx_iconst d_MO_fit_74 ?_
  refine fx_iconst d_MO_fit_75 ?_
  refine fx_callV (M' := M_MO_value) (B' := (0, 0)) (vs := [.int (zI 1), .int (zI 0)]) (rest := [.long (zL r3), .int (zI (h.2.1 31 14))]) (c1 := 0) (s1 := 0) (n := 79) d_MO_fit_76 ca_MO_fit_260 (at_31 (h := _) hS1) rfl rfl rfl ⟨by decide, by decide⟩ (Nat.le_of_ble_eq_true rfl) (Or.inl rfl) (fx_Mt.mono H fun v h4 hv => ?_)
  obtain ⟨r6, rfl, e5, H⟩ := hv
  have hS4 := e5.trans hS1
  show fx_V l M_MO_fit (0, 0) Q 0 0 79 [some (.ref 31), none, none, none, none, none] [.long (zL r6), .long (zL r3), .int (zI (h.2.1 31 14))] h4
  refine fx_callS (M' := M_MO_isSize) (B' := (0, 0)) (vs := [.int (zI (h.2.1 31 14)), .long (zL r3), .long (zL r6)]) (rest := []) (c1 := 0) (s1 := 0) (n := 82) d_MO_fit_79 ca_MO_fit_89 rfl rfl ⟨by decide, by decide⟩ (Nat.le_of_ble_eq_true rfl) (Or.inl rfl) (fx_Mt.mono H fun v h7 hv => ?_)
  obtain ⟨r9, rfl, e8, H⟩ := hv
  have hS7 := e8.trans hS4
  show fx_V l M_MO_fit (0, 0) Q 0 0 82 [some (.ref 31), none, none, none, none, none] [.int (zI r9)] h7
  obtain ⟨hz10, H⟩ := H
  refine fx_if_eq (t := 123) (n := 85) d_MO_fit_82 hz10 (fun z11 => ?_) (fun z11 => ?_)
  · replace H := H.1 z11
    refine fx_iconst d_MO_fit_123 ?_
    exact H
  · replace H := H.2 z11
    refine fx_aload_n (i := 0) d_MO_fit_85 rfl rfl ?_
    refine fx_iconst d_MO_fit_86 ?_
    refine fx_iconst d_MO_fit_87 ?_
    refine fx_callV (M' := M_MO_value) (B' := (0, 0)) (vs := [.int (zI 3), .int (zI 0)]) (rest := []) (c1 := 0) (s1 := 0) (n := 91) d_MO_fit_88 ca_MO_fit_260 (at_31 (h := _) hS7) rfl rfl rfl ⟨by decide, by decide⟩ (Nat.le_of_ble_eq_true rfl) (Or.inl rfl) (fx_Mt.mono H fun v h12 hv => ?_)
    obtain ⟨r14, rfl, e13, H⟩ := hv
    have hS12 := e13.trans hS7
    show fx_V l M_MO_fit (0, 0) Q 0 0 91 [some (.ref 31), none, none, none, none, none] [.long (zL r14)] h12
    refine fx_callS (M' := M_MO_isScheme) (B' := (0, 0)) (vs := [.long (zL r14)]) (rest := []) (c1 := 0) (s1 := 0) (n := 94) d_MO_fit_91 ca_MO_fit_222 rfl rfl ⟨by decide, by decide⟩ (Nat.le_of_ble_eq_true rfl) (Or.inl rfl) (fx_Mt.mono H fun v h15 hv => ?_)
    obtain ⟨r17, rfl, e16, H⟩ := hv
    have hS15 := e16.trans hS12
    show fx_V l M_MO_fit (0, 0) Q 0 0 94 [some (.ref 31), none, none, none, none, none] [.int (zI r17)] h15
    obtain ⟨hz18, H⟩ := H
    refine fx_if_eq (t := 123) (n := 97) d_MO_fit_94 hz18 (fun z19 => ?_) (fun z19 => ?_)
    · replace H := H.1 z19
      refine fx_iconst d_MO_fit_123 ?_
      exact H
    · replace H := H.2 z19
      refine fx_aload_n (i := 0) d_MO_fit_97 rfl rfl ?_
      refine fx_iconst d_MO_fit_98 ?_
      refine fx_iconst d_MO_fit_99 ?_
      refine fx_callV (M' := M_MO_value) (B' := (0, 0)) (vs := [.int (zI 4), .int (zI 0)]) (rest := []) (c1 := 0) (s1 := 0) (n := 103) d_MO_fit_100 ca_MO_fit_260 (at_31 (h := _) hS15) rfl rfl rfl ⟨by decide, by decide⟩ (Nat.le_of_ble_eq_true rfl) (Or.inl rfl) (fx_Mt.mono H fun v h20 hv => ?_)
      obtain ⟨r22, rfl, e21, H⟩ := hv
      have hS20 := e21.trans hS15
      show fx_V l M_MO_fit (0, 0) Q 0 0 103 [some (.ref 31), none, none, none, none, none] [.long (zL r22)] h20
      refine fx_aload_n (i := 0) d_MO_fit_103 rfl rfl ?_
      refine fx_getI d_MO_fit_104 lk_MO_128 (at_31 (h := _) hS20) rfl ?_
      obtain ⟨hz23, H⟩ := H
      refine fx_if_eq (t := 114) (n := 110) d_MO_fit_107 hz23 (fun z24 => ?_) (fun z24 => ?_)
      · replace H := H.1 z24
        refine fx_lconst (v := 0) d_MO_fit_114 rfl ?_
        exact H
      · replace H := H.2 z24
        refine fx_lconst (v := 1) d_MO_fit_110 rfl ?_
        refine fx_goto (n := 115) d_MO_fit_111 ?_
        exact H

set_option maxRecDepth 100000 in
set_option maxHeartbeats 4000000 in
theorem w_MO_fit_115 {l : Launch} {Q : Option Value → fx_H → Prop} {h : fx_H}  {y0 : Int} {y1 : Int}  {a : Nat → Nat} {pp dd : Nat} (hS : h.1 = fx_S0 a pp dd) 
    (H : zRL y1 ∧ zRL y0 ∧ ((¬ (zC y1 y0) = 0 → (fx_V l M_MO_fit (0, 0) Q 0 0 124 [some (.ref 31), none, none, none, none, none] [.int (zI 0)] h)) ∧ ((zC y1 y0) = 0 → (fx_V l M_MO_fit (0, 0) Q 0 0 124 [some (.ref 31), none, none, none, none, none] [.int (zI 1)] h)))) :
    fx_V l M_MO_fit (0, 0) Q 0 0 115 [some (.ref 31), none, none, none, none, none] [.long (zL y0), .long (zL y1)] h := by
  obtain ⟨hz1, H⟩ := H
  obtain ⟨hz2, H⟩ := H
  refine fx_lcmp d_MO_fit_115 hz1 hz2 ?_
  refine fx_if_ne (t := 123) (n := 119) d_MO_fit_116 (zC_R _ _) (fun z3 => ?_) (fun z3 => ?_)
  · replace H := H.1 z3
    refine fx_iconst d_MO_fit_123 ?_
    exact H
  · replace H := H.2 z3
    refine fx_iconst d_MO_fit_119 ?_
    refine fx_goto (n := 124) d_MO_fit_120 ?_
    exact H

set_option maxRecDepth 100000 in
set_option maxHeartbeats 4000000 in
theorem w_MO_fit_124 {l : Launch} {Q : Option Value → fx_H → Prop} {h : fx_H}  {y0 : Int}  {a : Nat → Nat} {pp dd : Nat} (hS : h.1 = fx_S0 a pp dd) 
    (H : zR y0 ∧ ((y0 = 0 → (fx_V l M_MO_fit (0, 0) Q 0 0 185 [some (.ref 31), none, none, none, none, none] [.int (zI 0)] h)) ∧ (¬ (y0 = 0) → fx_Mt l M_MO_value (0, 0) [.ref 31, .int (zI 6), .int (zI 0)] h (fun v h3 => ∃ r5 : Int, v = some (.long (zL r5)) ∧ h3.1 = h.1 ∧ zRL r5 ∧ (((zC r5 1) < 0 → (fx_V l M_MO_fit (0, 0) Q 0 0 185 [some (.ref 31), none, none, none, none, none] [.int (zI 0)] h3)) ∧ (¬ ((zC r5 1) < 0) → fx_Mt l M_MO_value (0, 0) [.ref 31, .int (zI 6), .int (zI 0)] h3 (fun v h8 => ∃ r10 : Int, v = some (.long (zL r10)) ∧ h8.1 = h3.1 ∧ fx_Mt l M_MO_value (0, 0) [.ref 31, .int (zI 1), .int (zI 0)] h8 (fun v h11 => ∃ r13 : Int, v = some (.long (zL r13)) ∧ h11.1 = h8.1 ∧ zRL r10 ∧ zRL r13 ∧ ((0 < (zC r10 r13) → (fx_V l M_MO_fit (0, 0) Q 0 0 185 [some (.ref 31), none, none, none, none, none] [.int (zI 0)] h11)) ∧ (¬ (0 < (zC r10 r13)) → zR (h11.2.2.1 43 8) ∧ (((h11.2.2.1 43 8) = 0 → (fx_V l M_MO_fit (0, 0) Q 0 0 185 [some (.ref 31), none, none, none, none, none] [.int (zI 1)] h11)) ∧ (¬ ((h11.2.2.1 43 8) = 0) → fx_Mt l M_MO_value (0, 0) [.ref 31, .int (zI 8), .int (zI 0)] h11 (fun v h19 => ∃ r21 : Int, v = some (.long (zL r21)) ∧ h19.1 = h11.1 ∧ zRL r21 ∧ ((¬ (zC r21 1) = 0 → (fx_V l M_MO_fit (0, 0) Q 0 0 185 [some (.ref 31), none, none, none, none, none] [.int (zI 0)] h19)) ∧ ((zC r21 1) = 0 → (fx_V l M_MO_fit (0, 0) Q 0 0 185 [some (.ref 31), none, none, none, none, none] [.int (zI 1)] h19)))))))))))))))) :
    fx_V l M_MO_fit (0, 0) Q 0 0 124 [some (.ref 31), none, none, none, none, none] [.int (zI y0)] h := by
  refine fx_istore_n (i := 3) (ls2 := [some (.ref 31), none, none, some (.int (zI y0)), none, none]) d_MO_fit_124 rfl (by decide) rfl ?_
  refine fx_iload_n (i := 3) d_MO_fit_125 rfl rfl ?_
  obtain ⟨hz1, H⟩ := H
  refine fx_if_eq (t := 184) (n := 129) d_MO_fit_126 hz1 (fun z2 => ?_) (fun z2 => ?_)
  · replace H := H.1 z2
    refine fx_iconst d_MO_fit_184 ?_
    exact fx_fewer [some (.ref 31), none, none, none, none, none] ⟨rfl, trivial⟩ H
  · replace H := H.2 z2
    refine fx_aload_n (i := 0) d_MO_fit_129 rfl rfl ?_
    refine fx_bipush (v := 6) d_MO_fit_130 rfl ?_
    refine fx_iconst d_MO_fit_132 ?_
    refine fx_callV (M' := M_MO_value) (B' := (0, 0)) (vs := [.int (zI 6), .int (zI 0)]) (rest := []) (c1 := 0) (s1 := 0) (n := 136) d_MO_fit_133 ca_MO_fit_260 (at_31 (h := _) hS) rfl rfl rfl ⟨by decide, by decide⟩ (Nat.le_of_ble_eq_true rfl) (Or.inl rfl) (fx_Mt.mono H fun v h3 hv => ?_)
    obtain ⟨r5, rfl, e4, H⟩ := hv
    have hS3 := e4.trans hS
    show fx_V l M_MO_fit (0, 0) Q 0 0 136 [some (.ref 31), none, none, some (.int (zI y0)), none, none] [.long (zL r5)] h3
    refine fx_lconst (v := 1) d_MO_fit_136 rfl ?_
    obtain ⟨hz6, H⟩ := H
    refine fx_lcmp d_MO_fit_137 hz6 (show zRL 1 by decide) ?_
    refine fx_if_lt (t := 184) (n := 141) d_MO_fit_138 (zC_R _ _) (fun z7 => ?_) (fun z7 => ?_)
    · replace H := H.1 z7
      refine fx_iconst d_MO_fit_184 ?_
      exact fx_fewer [some (.ref 31), none, none, none, none, none] ⟨rfl, trivial⟩ H
    · replace H := H.2 z7
      refine fx_aload_n (i := 0) d_MO_fit_141 rfl rfl ?_
      refine fx_bipush (v := 6) d_MO_fit_142 rfl ?_
      refine fx_iconst d_MO_fit_144 ?_
      refine fx_callV (M' := M_MO_value) (B' := (0, 0)) (vs := [.int (zI 6), .int (zI 0)]) (rest := []) (c1 := 0) (s1 := 0) (n := 148) d_MO_fit_145 ca_MO_fit_260 (at_31 (h := _) hS3) rfl rfl rfl ⟨by decide, by decide⟩ (Nat.le_of_ble_eq_true rfl) (Or.inl rfl) (fx_Mt.mono H fun v h8 hv => ?_)
      obtain ⟨r10, rfl, e9, H⟩ := hv
      have hS8 := e9.trans hS3
      show fx_V l M_MO_fit (0, 0) Q 0 0 148 [some (.ref 31), none, none, some (.int (zI y0)), none, none] [.long (zL r10)] h8
      refine fx_aload_n (i := 0) d_MO_fit_148 rfl rfl ?_
      refine fx_iconst d_MO_fit_149 ?_
      refine fx_iconst d_MO_fit_150 ?_
      refine fx_callV (M' := M_MO_value) (B' := (0, 0)) (vs := [.int (zI 1), .int (zI 0)]) (rest := [.long (zL r10)]) (c1 := 0) (s1 := 0) (n := 154) d_MO_fit_151 ca_MO_fit_260 (at_31 (h := _) hS8) rfl rfl rfl ⟨by decide, by decide⟩ (Nat.le_of_ble_eq_true rfl) (Or.inl rfl) (fx_Mt.mono H fun v h11 hv => ?_)
      obtain ⟨r13, rfl, e12, H⟩ := hv
      have hS11 := e12.trans hS8
      show fx_V l M_MO_fit (0, 0) Q 0 0 154 [some (.ref 31), none, none, some (.int (zI y0)), none, none] [.long (zL r13), .long (zL r10)] h11
      obtain ⟨hz14, H⟩ := H
      obtain ⟨hz15, H⟩ := H
      refine fx_lcmp d_MO_fit_154 hz14 hz15 ?_
      refine fx_if_gt (t := 184) (n := 158) d_MO_fit_155 (zC_R _ _) (fun z16 => ?_) (fun z16 => ?_)
      · replace H := H.1 z16
        refine fx_iconst d_MO_fit_184 ?_
        exact fx_fewer [some (.ref 31), none, none, none, none, none] ⟨rfl, trivial⟩ H
      · replace H := H.2 z16
        refine fx_aload_n (i := 0) d_MO_fit_158 rfl rfl ?_
        refine fx_getR (q := 43) d_MO_fit_159 lk_MO_62 (at_31 (h := _) hS11) rfl rfl ?_
        refine fx_bipush (v := 8) d_MO_fit_162 rfl ?_
        refine fx_zald d_MO_fit_164 (at_43 (h := _) hS11) (by decide) (by decide) (by decide) ?_
        obtain ⟨hz17, H⟩ := H
        refine fx_if_eq (t := 180) (n := 168) d_MO_fit_165 hz17 (fun z18 => ?_) (fun z18 => ?_)
        · replace H := H.1 z18
          refine fx_iconst d_MO_fit_180 ?_
          refine fx_goto (n := 185) d_MO_fit_181 ?_
          exact fx_fewer [some (.ref 31), none, none, none, none, none] ⟨rfl, trivial⟩ H
        · replace H := H.2 z18
          refine fx_aload_n (i := 0) d_MO_fit_168 rfl rfl ?_
          refine fx_bipush (v := 8) d_MO_fit_169 rfl ?_
          refine fx_iconst d_MO_fit_171 ?_
          refine fx_callV (M' := M_MO_value) (B' := (0, 0)) (vs := [.int (zI 8), .int (zI 0)]) (rest := []) (c1 := 0) (s1 := 0) (n := 175) d_MO_fit_172 ca_MO_fit_260 (at_31 (h := _) hS11) rfl rfl rfl ⟨by decide, by decide⟩ (Nat.le_of_ble_eq_true rfl) (Or.inl rfl) (fx_Mt.mono H fun v h19 hv => ?_)
          obtain ⟨r21, rfl, e20, H⟩ := hv
          have hS19 := e20.trans hS11
          show fx_V l M_MO_fit (0, 0) Q 0 0 175 [some (.ref 31), none, none, some (.int (zI y0)), none, none] [.long (zL r21)] h19
          refine fx_lconst (v := 1) d_MO_fit_175 rfl ?_
          obtain ⟨hz22, H⟩ := H
          refine fx_lcmp d_MO_fit_176 hz22 (show zRL 1 by decide) ?_
          refine fx_if_ne (t := 184) (n := 180) d_MO_fit_177 (zC_R _ _) (fun z23 => ?_) (fun z23 => ?_)
          · replace H := H.1 z23
            refine fx_iconst d_MO_fit_184 ?_
            exact fx_fewer [some (.ref 31), none, none, none, none, none] ⟨rfl, trivial⟩ H
          · replace H := H.2 z23
            refine fx_iconst d_MO_fit_180 ?_
            refine fx_goto (n := 185) d_MO_fit_181 ?_
            exact fx_fewer [some (.ref 31), none, none, none, none, none] ⟨rfl, trivial⟩ H

set_option maxRecDepth 100000 in
set_option maxHeartbeats 4000000 in
theorem w_MO_fit_185 {l : Launch} {Q : Option Value → fx_H → Prop} {h : fx_H}  {y0 : Int}  {a : Nat → Nat} {pp dd : Nat} (hS : h.1 = fx_S0 a pp dd) 
    (H : zR y0 ∧ ((¬ y0 = 0 → fx_Mt l M_MO_value (0, 0) [.ref 31, .int (zI 0), .int (zI 0)] h (fun v h3 => ∃ r5 : Int, v = some (.long (zL r5)) ∧ h3.1 = h.1 ∧ fx_Mt l M_MO_value (0, 0) [.ref 31, .int (zI 1), .int (zI 0)] (fx_uF h3 31 15 r5) (fun v h6 => ∃ r8 : Int, v = some (.long (zL r8)) ∧ h6.1 = (fx_uF h3 31 15 r5).1 ∧ fx_Mt l M_MO_value (0, 0) [.ref 31, .int (zI 3), .int (zI 0)] (fx_uF h6 31 16 r8) (fun v h9 => ∃ r11 : Int, v = some (.long (zL r11)) ∧ h9.1 = (fx_uF h6 31 16 r8).1 ∧ fx_Mt l M_MO_value (0, 0) [.ref 31, .int (zI 6), .int (zI 0)] (fx_uF h9 31 12 r11) (fun v h12 => ∃ r14 : Int, v = some (.long (zL r14)) ∧ h12.1 = (fx_uF h9 31 12 r11).1 ∧ 0 ≤ (((h12.2.1 31 16) + r14) - 1) ∧ zR (((h12.2.1 31 16) + r14) - 1) ∧ 0 < r14 ∧ zR r14 ∧ zR (h12.2.1 31 12) ∧ (((h12.2.1 31 12) = 3 → (fx_V l M_MO_fit (0, 0) Q 0 0 276 [some (.ref 31), none, none, none, some (.int (zI ((((h12.2.1 31 16) + r14) - 1) / r14))), none] [.int (zI 1)] (fx_uF h12 31 13 r14))) ∧ (¬ ((h12.2.1 31 12) = 3) → ((¬ (h12.2.1 31 12) = 4 → (fx_V l M_MO_fit (0, 0) Q 0 0 276 [some (.ref 31), none, none, none, some (.int (zI ((((h12.2.1 31 16) + r14) - 1) / r14))), none] [.int (zI 0)] (fx_uF h12 31 13 r14))) ∧ ((h12.2.1 31 12) = 4 → (fx_V l M_MO_fit (0, 0) Q 0 0 276 [some (.ref 31), none, none, none, some (.int (zI ((((h12.2.1 31 16) + r14) - 1) / r14))), none] [.int (zI 1)] (fx_uF h12 31 13 r14))))))))))) ∧ (y0 = 0 → Q (some (.int (zI 0))) h))) :
    fx_V l M_MO_fit (0, 0) Q 0 0 185 [some (.ref 31), none, none, none, none, none] [.int (zI y0)] h := by
  refine fx_istore_n (i := 3) (ls2 := [some (.ref 31), none, none, some (.int (zI y0)), none, none]) d_MO_fit_185 rfl (by decide) rfl ?_
  refine fx_iload_n (i := 3) d_MO_fit_186 rfl rfl ?_
  obtain ⟨hz1, H⟩ := H
  refine fx_if_ne (t := 192) (n := 190) d_MO_fit_187 hz1 (fun z2 => ?_) (fun z2 => ?_)
  · replace H := H.1 z2
    refine fx_aload_n (i := 0) d_MO_fit_192 rfl rfl ?_
    refine fx_aload_n (i := 0) d_MO_fit_193 rfl rfl ?_
    refine fx_iconst d_MO_fit_194 ?_
    refine fx_iconst d_MO_fit_195 ?_
    refine fx_callV (M' := M_MO_value) (B' := (0, 0)) (vs := [.int (zI 0), .int (zI 0)]) (rest := [.ref 31]) (c1 := 0) (s1 := 0) (n := 199) d_MO_fit_196 ca_MO_fit_260 (at_31 (h := _) hS) rfl rfl rfl ⟨by decide, by decide⟩ (Nat.le_of_ble_eq_true rfl) (Or.inl rfl) (fx_Mt.mono H fun v h3 hv => ?_)
    obtain ⟨r5, rfl, e4, H⟩ := hv
    have hS3 := e4.trans hS
    show fx_V l M_MO_fit (0, 0) Q 0 0 199 [some (.ref 31), none, none, some (.int (zI y0)), none, none] [.long (zL r5), .ref 31] h3
    refine fx_l2i d_MO_fit_199 ?_
    refine fx_putI d_MO_fit_200 lk_MO_131 (at_31 (h := _) hS3) rfl rfl rfl ?_
    refine fx_aload_n (i := 0) d_MO_fit_203 rfl rfl ?_
    refine fx_aload_n (i := 0) d_MO_fit_204 rfl rfl ?_
    refine fx_iconst d_MO_fit_205 ?_
    refine fx_iconst d_MO_fit_206 ?_
    refine fx_callV (M' := M_MO_value) (B' := (0, 0)) (vs := [.int (zI 1), .int (zI 0)]) (rest := [.ref 31]) (c1 := 0) (s1 := 0) (n := 210) d_MO_fit_207 ca_MO_fit_260 (at_31 (h := _) hS3) rfl rfl rfl ⟨by decide, by decide⟩ (Nat.le_of_ble_eq_true rfl) (Or.inl rfl) (fx_Mt.mono H fun v h6 hv => ?_)
    obtain ⟨r8, rfl, e7, H⟩ := hv
    have hS6 := e7.trans hS3
    show fx_V l M_MO_fit (0, 0) Q 0 0 210 [some (.ref 31), none, none, some (.int (zI y0)), none, none] [.long (zL r8), .ref 31] h6
    refine fx_l2i d_MO_fit_210 ?_
    refine fx_putI d_MO_fit_211 lk_MO_216 (at_31 (h := _) hS6) rfl rfl rfl ?_
    refine fx_aload_n (i := 0) d_MO_fit_214 rfl rfl ?_
    refine fx_aload_n (i := 0) d_MO_fit_215 rfl rfl ?_
    refine fx_iconst d_MO_fit_216 ?_
    refine fx_iconst d_MO_fit_217 ?_
    refine fx_callV (M' := M_MO_value) (B' := (0, 0)) (vs := [.int (zI 3), .int (zI 0)]) (rest := [.ref 31]) (c1 := 0) (s1 := 0) (n := 221) d_MO_fit_218 ca_MO_fit_260 (at_31 (h := _) hS6) rfl rfl rfl ⟨by decide, by decide⟩ (Nat.le_of_ble_eq_true rfl) (Or.inl rfl) (fx_Mt.mono H fun v h9 hv => ?_)
    obtain ⟨r11, rfl, e10, H⟩ := hv
    have hS9 := e10.trans hS6
    show fx_V l M_MO_fit (0, 0) Q 0 0 221 [some (.ref 31), none, none, some (.int (zI y0)), none, none] [.long (zL r11), .ref 31] h9
    refine fx_l2i d_MO_fit_221 ?_
    refine fx_putI d_MO_fit_222 lk_MO_180 (at_31 (h := _) hS9) rfl rfl rfl ?_
    refine fx_aload_n (i := 0) d_MO_fit_225 rfl rfl ?_
    refine fx_aload_n (i := 0) d_MO_fit_226 rfl rfl ?_
    refine fx_bipush (v := 6) d_MO_fit_227 rfl ?_
    refine fx_iconst d_MO_fit_229 ?_
    refine fx_callV (M' := M_MO_value) (B' := (0, 0)) (vs := [.int (zI 6), .int (zI 0)]) (rest := [.ref 31]) (c1 := 0) (s1 := 0) (n := 233) d_MO_fit_230 ca_MO_fit_260 (at_31 (h := _) hS9) rfl rfl rfl ⟨by decide, by decide⟩ (Nat.le_of_ble_eq_true rfl) (Or.inl rfl) (fx_Mt.mono H fun v h12 hv => ?_)
    obtain ⟨r14, rfl, e13, H⟩ := hv
    have hS12 := e13.trans hS9
    show fx_V l M_MO_fit (0, 0) Q 0 0 233 [some (.ref 31), none, none, some (.int (zI y0)), none, none] [.long (zL r14), .ref 31] h12
    refine fx_l2i d_MO_fit_233 ?_
    refine fx_putI d_MO_fit_234 lk_MO_219 (at_31 (h := _) hS12) rfl rfl rfl ?_
    refine fx_aload_n (i := 0) d_MO_fit_237 rfl rfl ?_
    refine fx_getI d_MO_fit_238 lk_MO_216 (at_31 (h := _) hS12) rfl ?_
    refine fx_aload_n (i := 0) d_MO_fit_241 rfl rfl ?_
    refine fx_getI d_MO_fit_242 lk_MO_219 (at_31 (h := _) hS12) rfl ?_
    refine fx_iadd d_MO_fit_245 ?_
    refine fx_iconst d_MO_fit_246 ?_
    refine fx_isub d_MO_fit_247 ?_
    refine fx_aload_n (i := 0) d_MO_fit_248 rfl rfl ?_
    refine fx_getI d_MO_fit_249 lk_MO_219 (at_31 (h := _) hS12) rfl ?_
    obtain ⟨hn15, H⟩ := H
    obtain ⟨hz16, H⟩ := H
    obtain ⟨hn17, H⟩ := H
    obtain ⟨hz18, H⟩ := H
    refine fx_idiv d_MO_fit_252 hn15 hz16 hn17 hz18 ?_
    refine fx_istore (ls2 := [some (.ref 31), none, none, some (.int (zI y0)), some (.int (zI ((((h12.2.1 31 16) + r14) - 1) / r14))), none]) d_MO_fit_253 (by decide) rfl ?_
    refine fx_aload_n (i := 0) d_MO_fit_255 rfl rfl ?_
    refine fx_getI d_MO_fit_256 lk_MO_180 (at_31 (h := _) hS12) rfl ?_
    refine fx_iconst d_MO_fit_259 ?_
    obtain ⟨hz19, H⟩ := H
    refine fx_icmp_eq (t := 271) (n := 263) d_MO_fit_260 hz19 (show zR 3 by decide) (fun z20 => ?_) (fun z20 => ?_)
    · replace H := H.1 z20
      refine fx_iconst d_MO_fit_271 ?_
      refine fx_goto (n := 276) d_MO_fit_272 ?_
      exact fx_fewer [some (.ref 31), none, none, none, some (.int (zI ((((h12.2.1 31 16) + r14) - 1) / r14))), none] ⟨rfl, rfl, trivial⟩ H
    · replace H := H.2 z20
      refine fx_aload_n (i := 0) d_MO_fit_263 rfl rfl ?_
      refine fx_getI d_MO_fit_264 lk_MO_180 (at_31 (h := _) hS12) rfl ?_
      refine fx_iconst d_MO_fit_267 ?_
      refine fx_icmp_ne (t := 275) (n := 271) d_MO_fit_268 hz19 (show zR 4 by decide) (fun z21 => ?_) (fun z21 => ?_)
      · replace H := H.1 z21
        refine fx_iconst d_MO_fit_275 ?_
        exact fx_fewer [some (.ref 31), none, none, none, some (.int (zI ((((h12.2.1 31 16) + r14) - 1) / r14))), none] ⟨rfl, rfl, trivial⟩ H
      · replace H := H.2 z21
        refine fx_iconst d_MO_fit_271 ?_
        refine fx_goto (n := 276) d_MO_fit_272 ?_
        exact fx_fewer [some (.ref 31), none, none, none, some (.int (zI ((((h12.2.1 31 16) + r14) - 1) / r14))), none] ⟨rfl, rfl, trivial⟩ H
  · replace H := H.2 z2
    refine fx_iconst d_MO_fit_190 ?_
    exact fx_end (some (.int (zI 0))) ⟨⟨_, rfl, rfl⟩, d_MO_fit_191⟩ (Nat.le_refl _) (Nat.le_refl _) rfl H

set_option maxRecDepth 100000 in
set_option maxHeartbeats 4000000 in
theorem w_MO_fit_276 {l : Launch} {Q : Option Value → fx_H → Prop} {h : fx_H}  {x4 : Int} {y0 : Int}  {a : Nat → Nat} {pp dd : Nat} (hS : h.1 = fx_S0 a pp dd) 
    (H : zR y0 ∧ ((y0 = 0 → zR (h.2.1 31 12) ∧ ((¬ (h.2.1 31 12) = 3 → zR x4 ∧ zRL (h.2.2.2 45 5) ∧ zRL x4 ∧ ((¬ (zC (h.2.2.2 45 5) x4) = 0 → Q (some (.int (zI 0))) h) ∧ ((zC (h.2.2.2 45 5) x4) = 0 → zRL (h.2.2.2 45 7) ∧ ((¬ (zC (h.2.2.2 45 7) x4) = 0 → Q (some (.int (zI 0))) h) ∧ ((zC (h.2.2.2 45 7) x4) = 0 → Q (some (.int (zI 1))) h))))) ∧ ((h.2.1 31 12) = 3 → zR (h.2.2.1 43 8) ∧ (((h.2.2.1 43 8) = 0 → Q (some (.int (zI 0))) h) ∧ (¬ ((h.2.2.1 43 8) = 0) → zR x4 ∧ zRL (h.2.2.2 45 5) ∧ zRL x4 ∧ ((¬ (zC (h.2.2.2 45 5) x4) = 0 → Q (some (.int (zI 0))) h) ∧ ((zC (h.2.2.2 45 5) x4) = 0 → zRL (h.2.2.2 45 7) ∧ ((¬ (zC (h.2.2.2 45 7) x4) = 0 → Q (some (.int (zI 0))) h) ∧ ((zC (h.2.2.2 45 7) x4) = 0 → Q (some (.int (zI 1))) h))))))))) ∧ (¬ (y0 = 0) → zR (h.2.1 31 14) ∧ ((¬ (h.2.1 31 14) = 0 → Q (some (.int (zI 0))) h) ∧ ((h.2.1 31 14) = 0 → zR (h.2.1 31 12) ∧ ((¬ (h.2.1 31 12) = 3 → zR x4 ∧ zRL (h.2.2.2 45 5) ∧ zRL x4 ∧ ((¬ (zC (h.2.2.2 45 5) x4) = 0 → Q (some (.int (zI 0))) h) ∧ ((zC (h.2.2.2 45 5) x4) = 0 → zRL (h.2.2.2 45 7) ∧ ((¬ (zC (h.2.2.2 45 7) x4) = 0 → Q (some (.int (zI 0))) h) ∧ ((zC (h.2.2.2 45 7) x4) = 0 → Q (some (.int (zI 1))) h))))) ∧ ((h.2.1 31 12) = 3 → zR (h.2.2.1 43 8) ∧ (((h.2.2.1 43 8) = 0 → Q (some (.int (zI 0))) h) ∧ (¬ ((h.2.2.1 43 8) = 0) → zR x4 ∧ zRL (h.2.2.2 45 5) ∧ zRL x4 ∧ ((¬ (zC (h.2.2.2 45 5) x4) = 0 → Q (some (.int (zI 0))) h) ∧ ((zC (h.2.2.2 45 5) x4) = 0 → zRL (h.2.2.2 45 7) ∧ ((¬ (zC (h.2.2.2 45 7) x4) = 0 → Q (some (.int (zI 0))) h) ∧ ((zC (h.2.2.2 45 7) x4) = 0 → Q (some (.int (zI 1))) h))))))))))))) :
    fx_V l M_MO_fit (0, 0) Q 0 0 276 [some (.ref 31), none, none, none, some (.int (zI x4)), none] [.int (zI y0)] h := by
  refine fx_istore (ls2 := [some (.ref 31), none, none, none, some (.int (zI x4)), some (.int (zI y0))]) d_MO_fit_276 (by decide) rfl ?_
  refine fx_iload d_MO_fit_278 rfl ?_
  obtain ⟨hz1, H⟩ := H
  refine fx_if_eq (t := 290) (n := 283) d_MO_fit_280 hz1 (fun z2 => ?_) (fun z2 => ?_)
  · replace H := H.1 z2
    refine fx_aload_n (i := 0) d_MO_fit_290 rfl rfl ?_
    refine fx_getI d_MO_fit_291 lk_MO_180 (at_31 (h := _) hS) rfl ?_
    refine fx_iconst d_MO_fit_294 ?_
    obtain ⟨hz3, H⟩ := H
    refine fx_icmp_ne (t := 308) (n := 298) d_MO_fit_295 hz3 (show zR 3 by decide) (fun z4 => ?_) (fun z4 => ?_)
    · replace H := H.1 z4
      refine fx_aload_n (i := 0) d_MO_fit_308 rfl rfl ?_
      refine fx_getR (q := 45) d_MO_fit_309 lk_MO_69 (at_31 (h := _) hS) rfl rfl ?_
      refine fx_iconst d_MO_fit_312 ?_
      refine fx_lald d_MO_fit_313 (at_45 (h := _) hS) (by decide) (by decide) (by decide) ?_
      refine fx_iload d_MO_fit_314 rfl ?_
      obtain ⟨hz5, H⟩ := H
      refine fx_i2l d_MO_fit_316 hz5 ?_
      obtain ⟨hz6, H⟩ := H
      obtain ⟨hz7, H⟩ := H
      refine fx_lcmp d_MO_fit_317 hz6 hz7 ?_
      refine fx_if_ne (t := 339) (n := 321) d_MO_fit_318 (zC_R _ _) (fun z8 => ?_) (fun z8 => ?_)
      · replace H := H.1 z8
        refine fx_iconst d_MO_fit_339 ?_
        exact fx_end (some (.int (zI 0))) ⟨⟨_, rfl, rfl⟩, d_MO_fit_340⟩ (Nat.le_refl _) (Nat.le_refl _) rfl H
      · replace H := H.2 z8
        refine fx_aload_n (i := 0) d_MO_fit_321 rfl rfl ?_
        refine fx_getR (q := 45) d_MO_fit_322 lk_MO_69 (at_31 (h := _) hS) rfl rfl ?_
        refine fx_bipush (v := 7) d_MO_fit_325 rfl ?_
        refine fx_lald d_MO_fit_327 (at_45 (h := _) hS) (by decide) (by decide) (by decide) ?_
        refine fx_iload d_MO_fit_328 rfl ?_
        refine fx_i2l d_MO_fit_330 hz5 ?_
        obtain ⟨hz9, H⟩ := H
        refine fx_lcmp d_MO_fit_331 hz9 hz7 ?_
        refine fx_if_ne (t := 339) (n := 335) d_MO_fit_332 (zC_R _ _) (fun z10 => ?_) (fun z10 => ?_)
        · replace H := H.1 z10
          refine fx_iconst d_MO_fit_339 ?_
          exact fx_end (some (.int (zI 0))) ⟨⟨_, rfl, rfl⟩, d_MO_fit_340⟩ (Nat.le_refl _) (Nat.le_refl _) rfl H
        · replace H := H.2 z10
          refine fx_iconst d_MO_fit_335 ?_
          refine fx_goto (n := 340) d_MO_fit_336 ?_
          exact fx_end (some (.int (zI 1))) ⟨⟨_, rfl, rfl⟩, d_MO_fit_340⟩ (Nat.le_refl _) (Nat.le_refl _) rfl H
    · replace H := H.2 z4
      refine fx_aload_n (i := 0) d_MO_fit_298 rfl rfl ?_
      refine fx_getR (q := 43) d_MO_fit_299 lk_MO_62 (at_31 (h := _) hS) rfl rfl ?_
      refine fx_bipush (v := 8) d_MO_fit_302 rfl ?_
      refine fx_zald d_MO_fit_304 (at_43 (h := _) hS) (by decide) (by decide) (by decide) ?_
      obtain ⟨hz11, H⟩ := H
      refine fx_if_eq (t := 339) (n := 308) d_MO_fit_305 hz11 (fun z12 => ?_) (fun z12 => ?_)
      · replace H := H.1 z12
        refine fx_iconst d_MO_fit_339 ?_
        exact fx_end (some (.int (zI 0))) ⟨⟨_, rfl, rfl⟩, d_MO_fit_340⟩ (Nat.le_refl _) (Nat.le_refl _) rfl H
      · replace H := H.2 z12
        refine fx_aload_n (i := 0) d_MO_fit_308 rfl rfl ?_
        refine fx_getR (q := 45) d_MO_fit_309 lk_MO_69 (at_31 (h := _) hS) rfl rfl ?_
        refine fx_iconst d_MO_fit_312 ?_
        refine fx_lald d_MO_fit_313 (at_45 (h := _) hS) (by decide) (by decide) (by decide) ?_
        refine fx_iload d_MO_fit_314 rfl ?_
        obtain ⟨hz13, H⟩ := H
        refine fx_i2l d_MO_fit_316 hz13 ?_
        obtain ⟨hz14, H⟩ := H
        obtain ⟨hz15, H⟩ := H
        refine fx_lcmp d_MO_fit_317 hz14 hz15 ?_
        refine fx_if_ne (t := 339) (n := 321) d_MO_fit_318 (zC_R _ _) (fun z16 => ?_) (fun z16 => ?_)
        · replace H := H.1 z16
          refine fx_iconst d_MO_fit_339 ?_
          exact fx_end (some (.int (zI 0))) ⟨⟨_, rfl, rfl⟩, d_MO_fit_340⟩ (Nat.le_refl _) (Nat.le_refl _) rfl H
        · replace H := H.2 z16
          refine fx_aload_n (i := 0) d_MO_fit_321 rfl rfl ?_
          refine fx_getR (q := 45) d_MO_fit_322 lk_MO_69 (at_31 (h := _) hS) rfl rfl ?_
          refine fx_bipush (v := 7) d_MO_fit_325 rfl ?_
          refine fx_lald d_MO_fit_327 (at_45 (h := _) hS) (by decide) (by decide) (by decide) ?_
          refine fx_iload d_MO_fit_328 rfl ?_
          refine fx_i2l d_MO_fit_330 hz13 ?_
          obtain ⟨hz17, H⟩ := H
          refine fx_lcmp d_MO_fit_331 hz17 hz15 ?_
          refine fx_if_ne (t := 339) (n := 335) d_MO_fit_332 (zC_R _ _) (fun z18 => ?_) (fun z18 => ?_)
          · replace H := H.1 z18
            refine fx_iconst d_MO_fit_339 ?_
            exact fx_end (some (.int (zI 0))) ⟨⟨_, rfl, rfl⟩, d_MO_fit_340⟩ (Nat.le_refl _) (Nat.le_refl _) rfl H
          · replace H := H.2 z18
            refine fx_iconst d_MO_fit_335 ?_
            refine fx_goto (n := 340) d_MO_fit_336 ?_
            exact fx_end (some (.int (zI 1))) ⟨⟨_, rfl, rfl⟩, d_MO_fit_340⟩ (Nat.le_refl _) (Nat.le_refl _) rfl H
  · replace H := H.2 z2
    refine fx_aload_n (i := 0) d_MO_fit_283 rfl rfl ?_
    refine fx_getI d_MO_fit_284 lk_MO_128 (at_31 (h := _) hS) rfl ?_
    obtain ⟨hz19, H⟩ := H
    refine fx_if_ne (t := 339) (n := 290) d_MO_fit_287 hz19 (fun z20 => ?_) (fun z20 => ?_)
    · replace H := H.1 z20
      refine fx_iconst d_MO_fit_339 ?_
      exact fx_end (some (.int (zI 0))) ⟨⟨_, rfl, rfl⟩, d_MO_fit_340⟩ (Nat.le_refl _) (Nat.le_refl _) rfl H
    · replace H := H.2 z20
      refine fx_aload_n (i := 0) d_MO_fit_290 rfl rfl ?_
      refine fx_getI d_MO_fit_291 lk_MO_180 (at_31 (h := _) hS) rfl ?_
      refine fx_iconst d_MO_fit_294 ?_
      obtain ⟨hz21, H⟩ := H
      refine fx_icmp_ne (t := 308) (n := 298) d_MO_fit_295 hz21 (show zR 3 by decide) (fun z22 => ?_) (fun z22 => ?_)
      · replace H := H.1 z22
        refine fx_aload_n (i := 0) d_MO_fit_308 rfl rfl ?_
        refine fx_getR (q := 45) d_MO_fit_309 lk_MO_69 (at_31 (h := _) hS) rfl rfl ?_
        refine fx_iconst d_MO_fit_312 ?_
        refine fx_lald d_MO_fit_313 (at_45 (h := _) hS) (by decide) (by decide) (by decide) ?_
        refine fx_iload d_MO_fit_314 rfl ?_
        obtain ⟨hz23, H⟩ := H
        refine fx_i2l d_MO_fit_316 hz23 ?_
        obtain ⟨hz24, H⟩ := H
        obtain ⟨hz25, H⟩ := H
        refine fx_lcmp d_MO_fit_317 hz24 hz25 ?_
        refine fx_if_ne (t := 339) (n := 321) d_MO_fit_318 (zC_R _ _) (fun z26 => ?_) (fun z26 => ?_)
        · replace H := H.1 z26
          refine fx_iconst d_MO_fit_339 ?_
          exact fx_end (some (.int (zI 0))) ⟨⟨_, rfl, rfl⟩, d_MO_fit_340⟩ (Nat.le_refl _) (Nat.le_refl _) rfl H
        · replace H := H.2 z26
          refine fx_aload_n (i := 0) d_MO_fit_321 rfl rfl ?_
          refine fx_getR (q := 45) d_MO_fit_322 lk_MO_69 (at_31 (h := _) hS) rfl rfl ?_
          refine fx_bipush (v := 7) d_MO_fit_325 rfl ?_
          refine fx_lald d_MO_fit_327 (at_45 (h := _) hS) (by decide) (by decide) (by decide) ?_
          refine fx_iload d_MO_fit_328 rfl ?_
          refine fx_i2l d_MO_fit_330 hz23 ?_
          obtain ⟨hz27, H⟩ := H
          refine fx_lcmp d_MO_fit_331 hz27 hz25 ?_
          refine fx_if_ne (t := 339) (n := 335) d_MO_fit_332 (zC_R _ _) (fun z28 => ?_) (fun z28 => ?_)
          · replace H := H.1 z28
            refine fx_iconst d_MO_fit_339 ?_
            exact fx_end (some (.int (zI 0))) ⟨⟨_, rfl, rfl⟩, d_MO_fit_340⟩ (Nat.le_refl _) (Nat.le_refl _) rfl H
          · replace H := H.2 z28
            refine fx_iconst d_MO_fit_335 ?_
            refine fx_goto (n := 340) d_MO_fit_336 ?_
            exact fx_end (some (.int (zI 1))) ⟨⟨_, rfl, rfl⟩, d_MO_fit_340⟩ (Nat.le_refl _) (Nat.le_refl _) rfl H
      · replace H := H.2 z22
        refine fx_aload_n (i := 0) d_MO_fit_298 rfl rfl ?_
        refine fx_getR (q := 43) d_MO_fit_299 lk_MO_62 (at_31 (h := _) hS) rfl rfl ?_
        refine fx_bipush (v := 8) d_MO_fit_302 rfl ?_
        refine fx_zald d_MO_fit_304 (at_43 (h := _) hS) (by decide) (by decide) (by decide) ?_
        obtain ⟨hz29, H⟩ := H
        refine fx_if_eq (t := 339) (n := 308) d_MO_fit_305 hz29 (fun z30 => ?_) (fun z30 => ?_)
        · replace H := H.1 z30
          refine fx_iconst d_MO_fit_339 ?_
          exact fx_end (some (.int (zI 0))) ⟨⟨_, rfl, rfl⟩, d_MO_fit_340⟩ (Nat.le_refl _) (Nat.le_refl _) rfl H
        · replace H := H.2 z30
          refine fx_aload_n (i := 0) d_MO_fit_308 rfl rfl ?_
          refine fx_getR (q := 45) d_MO_fit_309 lk_MO_69 (at_31 (h := _) hS) rfl rfl ?_
          refine fx_iconst d_MO_fit_312 ?_
          refine fx_lald d_MO_fit_313 (at_45 (h := _) hS) (by decide) (by decide) (by decide) ?_
          refine fx_iload d_MO_fit_314 rfl ?_
          obtain ⟨hz31, H⟩ := H
          refine fx_i2l d_MO_fit_316 hz31 ?_
          obtain ⟨hz32, H⟩ := H
          obtain ⟨hz33, H⟩ := H
          refine fx_lcmp d_MO_fit_317 hz32 hz33 ?_
          refine fx_if_ne (t := 339) (n := 321) d_MO_fit_318 (zC_R _ _) (fun z34 => ?_) (fun z34 => ?_)
          · replace H := H.1 z34
            refine fx_iconst d_MO_fit_339 ?_
            exact fx_end (some (.int (zI 0))) ⟨⟨_, rfl, rfl⟩, d_MO_fit_340⟩ (Nat.le_refl _) (Nat.le_refl _) rfl H
          · replace H := H.2 z34
            refine fx_aload_n (i := 0) d_MO_fit_321 rfl rfl ?_
            refine fx_getR (q := 45) d_MO_fit_322 lk_MO_69 (at_31 (h := _) hS) rfl rfl ?_
            refine fx_bipush (v := 7) d_MO_fit_325 rfl ?_
            refine fx_lald d_MO_fit_327 (at_45 (h := _) hS) (by decide) (by decide) (by decide) ?_
            refine fx_iload d_MO_fit_328 rfl ?_
            refine fx_i2l d_MO_fit_330 hz31 ?_
            obtain ⟨hz35, H⟩ := H
            refine fx_lcmp d_MO_fit_331 hz35 hz33 ?_
            refine fx_if_ne (t := 339) (n := 335) d_MO_fit_332 (zC_R _ _) (fun z36 => ?_) (fun z36 => ?_)
            · replace H := H.1 z36
              refine fx_iconst d_MO_fit_339 ?_
              exact fx_end (some (.int (zI 0))) ⟨⟨_, rfl, rfl⟩, d_MO_fit_340⟩ (Nat.le_refl _) (Nat.le_refl _) rfl H
            · replace H := H.2 z36
              refine fx_iconst d_MO_fit_335 ?_
              refine fx_goto (n := 340) d_MO_fit_336 ?_
              exact fx_end (some (.int (zI 1))) ⟨⟨_, rfl, rfl⟩, d_MO_fit_340⟩ (Nat.le_refl _) (Nat.le_refl _) rfl H

set_option maxRecDepth 100000 in
set_option maxHeartbeats 4000000 in
theorem w_MO_fit_290 {l : Launch} {Q : Option Value → fx_H → Prop} {h : fx_H}  {x4 : Int}  {a : Nat → Nat} {pp dd : Nat} (hS : h.1 = fx_S0 a pp dd) 
    (H : zR (h.2.1 31 12) ∧ ((¬ (h.2.1 31 12) = 3 → zR x4 ∧ zRL (h.2.2.2 45 5) ∧ zRL x4 ∧ ((¬ (zC (h.2.2.2 45 5) x4) = 0 → Q (some (.int (zI 0))) h) ∧ ((zC (h.2.2.2 45 5) x4) = 0 → zRL (h.2.2.2 45 7) ∧ ((¬ (zC (h.2.2.2 45 7) x4) = 0 → Q (some (.int (zI 0))) h) ∧ ((zC (h.2.2.2 45 7) x4) = 0 → Q (some (.int (zI 1))) h))))) ∧ ((h.2.1 31 12) = 3 → zR (h.2.2.1 43 8) ∧ (((h.2.2.1 43 8) = 0 → Q (some (.int (zI 0))) h) ∧ (¬ ((h.2.2.1 43 8) = 0) → zR x4 ∧ zRL (h.2.2.2 45 5) ∧ zRL x4 ∧ ((¬ (zC (h.2.2.2 45 5) x4) = 0 → Q (some (.int (zI 0))) h) ∧ ((zC (h.2.2.2 45 5) x4) = 0 → zRL (h.2.2.2 45 7) ∧ ((¬ (zC (h.2.2.2 45 7) x4) = 0 → Q (some (.int (zI 0))) h) ∧ ((zC (h.2.2.2 45 7) x4) = 0 → Q (some (.int (zI 1))) h))))))))) :
    fx_V l M_MO_fit (0, 0) Q 0 0 290 [some (.ref 31), none, none, none, some (.int (zI x4)), none] [] h := by
  refine fx_aload_n (i := 0) d_MO_fit_290 rfl rfl ?_
  refine fx_getI d_MO_fit_291 lk_MO_180 (at_31 (h := _) hS) rfl ?_
  refine fx_iconst d_MO_fit_294 ?_
  obtain ⟨hz1, H⟩ := H
  refine fx_icmp_ne (t := 308) (n := 298) d_MO_fit_295 hz1 (show zR 3 by decide) (fun z2 => ?_) (fun z2 => ?_)
  · replace H := H.1 z2
    refine fx_aload_n (i := 0) d_MO_fit_308 rfl rfl ?_
    refine fx_getR (q := 45) d_MO_fit_309 lk_MO_69 (at_31 (h := _) hS) rfl rfl ?_
    refine fx_iconst d_MO_fit_312 ?_
    refine fx_lald d_MO_fit_313 (at_45 (h := _) hS) (by decide) (by decide) (by decide) ?_
    refine fx_iload d_MO_fit_314 rfl ?_
    obtain ⟨hz3, H⟩ := H
    refine fx_i2l d_MO_fit_316 hz3 ?_
    obtain ⟨hz4, H⟩ := H
    obtain ⟨hz5, H⟩ := H
    refine fx_lcmp d_MO_fit_317 hz4 hz5 ?_
    refine fx_if_ne (t := 339) (n := 321) d_MO_fit_318 (zC_R _ _) (fun z6 => ?_) (fun z6 => ?_)
    · replace H := H.1 z6
      refine fx_iconst d_MO_fit_339 ?_
      exact fx_end (some (.int (zI 0))) ⟨⟨_, rfl, rfl⟩, d_MO_fit_340⟩ (Nat.le_refl _) (Nat.le_refl _) rfl H
    · replace H := H.2 z6
      refine fx_aload_n (i := 0) d_MO_fit_321 rfl rfl ?_
      refine fx_getR (q := 45) d_MO_fit_322 lk_MO_69 (at_31 (h := _) hS) rfl rfl ?_
      refine fx_bipush (v := 7) d_MO_fit_325 rfl ?_
      refine fx_lald d_MO_fit_327 (at_45 (h := _) hS) (by decide) (by decide) (by decide) ?_
      refine fx_iload d_MO_fit_328 rfl ?_
      refine fx_i2l d_MO_fit_330 hz3 ?_
      obtain ⟨hz7, H⟩ := H
      refine fx_lcmp d_MO_fit_331 hz7 hz5 ?_
      refine fx_if_ne (t := 339) (n := 335) d_MO_fit_332 (zC_R _ _) (fun z8 => ?_) (fun z8 => ?_)
      · replace H := H.1 z8
        refine fx_iconst d_MO_fit_339 ?_
        exact fx_end (some (.int (zI 0))) ⟨⟨_, rfl, rfl⟩, d_MO_fit_340⟩ (Nat.le_refl _) (Nat.le_refl _) rfl H
      · replace H := H.2 z8
        refine fx_iconst d_MO_fit_335 ?_
        refine fx_goto (n := 340) d_MO_fit_336 ?_
        exact fx_end (some (.int (zI 1))) ⟨⟨_, rfl, rfl⟩, d_MO_fit_340⟩ (Nat.le_refl _) (Nat.le_refl _) rfl H
  · replace H := H.2 z2
    refine fx_aload_n (i := 0) d_MO_fit_298 rfl rfl ?_
    refine fx_getR (q := 43) d_MO_fit_299 lk_MO_62 (at_31 (h := _) hS) rfl rfl ?_
    refine fx_bipush (v := 8) d_MO_fit_302 rfl ?_
    refine fx_zald d_MO_fit_304 (at_43 (h := _) hS) (by decide) (by decide) (by decide) ?_
    obtain ⟨hz9, H⟩ := H
    refine fx_if_eq (t := 339) (n := 308) d_MO_fit_305 hz9 (fun z10 => ?_) (fun z10 => ?_)
    · replace H := H.1 z10
      refine fx_iconst d_MO_fit_339 ?_
      exact fx_end (some (.int (zI 0))) ⟨⟨_, rfl, rfl⟩, d_MO_fit_340⟩ (Nat.le_refl _) (Nat.le_refl _) rfl H
    · replace H := H.2 z10
      refine fx_aload_n (i := 0) d_MO_fit_308 rfl rfl ?_
      refine fx_getR (q := 45) d_MO_fit_309 lk_MO_69 (at_31 (h := _) hS) rfl rfl ?_
      refine fx_iconst d_MO_fit_312 ?_
      refine fx_lald d_MO_fit_313 (at_45 (h := _) hS) (by decide) (by decide) (by decide) ?_
      refine fx_iload d_MO_fit_314 rfl ?_
      obtain ⟨hz11, H⟩ := H
      refine fx_i2l d_MO_fit_316 hz11 ?_
      obtain ⟨hz12, H⟩ := H
      obtain ⟨hz13, H⟩ := H
      refine fx_lcmp d_MO_fit_317 hz12 hz13 ?_
      refine fx_if_ne (t := 339) (n := 321) d_MO_fit_318 (zC_R _ _) (fun z14 => ?_) (fun z14 => ?_)
      · replace H := H.1 z14
        refine fx_iconst d_MO_fit_339 ?_
        exact fx_end (some (.int (zI 0))) ⟨⟨_, rfl, rfl⟩, d_MO_fit_340⟩ (Nat.le_refl _) (Nat.le_refl _) rfl H
      · replace H := H.2 z14
        refine fx_aload_n (i := 0) d_MO_fit_321 rfl rfl ?_
        refine fx_getR (q := 45) d_MO_fit_322 lk_MO_69 (at_31 (h := _) hS) rfl rfl ?_
        refine fx_bipush (v := 7) d_MO_fit_325 rfl ?_
        refine fx_lald d_MO_fit_327 (at_45 (h := _) hS) (by decide) (by decide) (by decide) ?_
        refine fx_iload d_MO_fit_328 rfl ?_
        refine fx_i2l d_MO_fit_330 hz11 ?_
        obtain ⟨hz15, H⟩ := H
        refine fx_lcmp d_MO_fit_331 hz15 hz13 ?_
        refine fx_if_ne (t := 339) (n := 335) d_MO_fit_332 (zC_R _ _) (fun z16 => ?_) (fun z16 => ?_)
        · replace H := H.1 z16
          refine fx_iconst d_MO_fit_339 ?_
          exact fx_end (some (.int (zI 0))) ⟨⟨_, rfl, rfl⟩, d_MO_fit_340⟩ (Nat.le_refl _) (Nat.le_refl _) rfl H
        · replace H := H.2 z16
          refine fx_iconst d_MO_fit_335 ?_
          refine fx_goto (n := 340) d_MO_fit_336 ?_
          exact fx_end (some (.int (zI 1))) ⟨⟨_, rfl, rfl⟩, d_MO_fit_340⟩ (Nat.le_refl _) (Nat.le_refl _) rfl H

set_option maxRecDepth 100000 in
set_option maxHeartbeats 4000000 in
theorem w_MO_fit_308 {l : Launch} {Q : Option Value → fx_H → Prop} {h : fx_H}  {x4 : Int}  {a : Nat → Nat} {pp dd : Nat} (hS : h.1 = fx_S0 a pp dd) 
    (H : zR x4 ∧ zRL (h.2.2.2 45 5) ∧ zRL x4 ∧ ((¬ (zC (h.2.2.2 45 5) x4) = 0 → Q (some (.int (zI 0))) h) ∧ ((zC (h.2.2.2 45 5) x4) = 0 → zRL (h.2.2.2 45 7) ∧ ((¬ (zC (h.2.2.2 45 7) x4) = 0 → Q (some (.int (zI 0))) h) ∧ ((zC (h.2.2.2 45 7) x4) = 0 → Q (some (.int (zI 1))) h))))) :
    fx_V l M_MO_fit (0, 0) Q 0 0 308 [some (.ref 31), none, none, none, some (.int (zI x4)), none] [] h := by
  refine fx_aload_n (i := 0) d_MO_fit_308 rfl rfl ?_
  refine fx_getR (q := 45) d_MO_fit_309 lk_MO_69 (at_31 (h := _) hS) rfl rfl ?_
  refine fx_iconst d_MO_fit_312 ?_
  refine fx_lald d_MO_fit_313 (at_45 (h := _) hS) (by decide) (by decide) (by decide) ?_
  refine fx_iload d_MO_fit_314 rfl ?_
  obtain ⟨hz1, H⟩ := H
  refine fx_i2l d_MO_fit_316 hz1 ?_
  obtain ⟨hz2, H⟩ := H
  obtain ⟨hz3, H⟩ := H
  refine fx_lcmp d_MO_fit_317 hz2 hz3 ?_
  refine fx_if_ne (t := 339) (n := 321) d_MO_fit_318 (zC_R _ _) (fun z4 => ?_) (fun z4 => ?_)
  · replace H := H.1 z4
    refine fx_iconst d_MO_fit_339 ?_
    exact fx_end (some (.int (zI 0))) ⟨⟨_, rfl, rfl⟩, d_MO_fit_340⟩ (Nat.le_refl _) (Nat.le_refl _) rfl H
  · replace H := H.2 z4
    refine fx_aload_n (i := 0) d_MO_fit_321 rfl rfl ?_
    refine fx_getR (q := 45) d_MO_fit_322 lk_MO_69 (at_31 (h := _) hS) rfl rfl ?_
    refine fx_bipush (v := 7) d_MO_fit_325 rfl ?_
    refine fx_lald d_MO_fit_327 (at_45 (h := _) hS) (by decide) (by decide) (by decide) ?_
    refine fx_iload d_MO_fit_328 rfl ?_
    refine fx_i2l d_MO_fit_330 hz1 ?_
    obtain ⟨hz5, H⟩ := H
    refine fx_lcmp d_MO_fit_331 hz5 hz3 ?_
    refine fx_if_ne (t := 339) (n := 335) d_MO_fit_332 (zC_R _ _) (fun z6 => ?_) (fun z6 => ?_)
    · replace H := H.1 z6
      refine fx_iconst d_MO_fit_339 ?_
      exact fx_end (some (.int (zI 0))) ⟨⟨_, rfl, rfl⟩, d_MO_fit_340⟩ (Nat.le_refl _) (Nat.le_refl _) rfl H
    · replace H := H.2 z6
      refine fx_iconst d_MO_fit_335 ?_
      refine fx_goto (n := 340) d_MO_fit_336 ?_
      exact fx_end (some (.int (zI 1))) ⟨⟨_, rfl, rfl⟩, d_MO_fit_340⟩ (Nat.le_refl _) (Nat.le_refl _) rfl H

set_option maxRecDepth 100000 in
set_option maxHeartbeats 4000000 in
theorem e_MO_value {l : Launch} {Q : Option Value → fx_H → Prop} {h : fx_H}  {x : Int} {y : Int}  {a : Nat → Nat} {pp dd : Nat} (hS : h.1 = fx_S0 a pp dd) 
    (H : 0 ≤ x ∧ x < 9 ∧ zR (h.2.2.1 44 (x.toNat)) ∧ ((¬ (h.2.2.1 44 (x.toNat)) = 3 → 0 ≤ x ∧ x < 9 ∧ zR y ∧ fx_Mt l M_MO_number (0, 0) [.ref 31, .long (zL ((h.2.2.2 46 (x.toNat)) + (4 * y))), .int (zI 4)] h (fun v h8 => ∃ r10 : Int, v = some (.long (zL r10)) ∧ h8.1 = h.1 ∧ Q (some (.long (zL r10))) h8)) ∧ ((h.2.2.1 44 (x.toNat)) = 3 → 0 ≤ x ∧ x < 9 ∧ zR y ∧ fx_Mt l M_MO_number (0, 0) [.ref 31, .long (zL ((h.2.2.2 46 (x.toNat)) + (2 * y))), .int (zI 2)] h (fun v h14 => ∃ r16 : Int, v = some (.long (zL r16)) ∧ h14.1 = h.1 ∧ Q (some (.long (zL r16))) h14)))) :
    fx_Mt l M_MO_value (0, 0) [.ref 31, .int (zI x), .int (zI y)] h Q := by
  refine fx_entry (ls := [some (.ref 31), some (.int (zI x)), some (.int (zI y)), none]) (by decide) (Nat.le_of_ble_eq_true rfl) rfl ?_
  refine fx_aload_n (i := 0) d_MO_value_0 rfl rfl ?_
  refine fx_getR (q := 44) d_MO_value_1 lk_MO_66 (at_31 (h := _) hS) rfl rfl ?_
  refine fx_iload_n (i := 1) d_MO_value_4 rfl rfl ?_
  obtain ⟨hn1, H⟩ := H
  obtain ⟨hn2, H⟩ := H
  refine fx_iald d_MO_value_5 (at_44 (h := _) hS) hn1 hn2 (by decide) ?_
  refine fx_iconst d_MO_value_6 ?_
  obtain ⟨hz3, H⟩ := H
  refine fx_icmp_ne (t := 14) (n := 10) d_MO_value_7 hz3 (show zR 3 by decide) (fun z4 => ?_) (fun z4 => ?_)
  · replace H := H.1 z4
    refine fx_iconst d_MO_value_14 ?_
    refine fx_istore_n (i := 3) (ls2 := [some (.ref 31), some (.int (zI x)), some (.int (zI y)), some (.int (zI 4))]) d_MO_value_15 rfl (by decide) rfl ?_
    refine fx_aload_n (i := 0) d_MO_value_16 rfl rfl ?_
    refine fx_aload_n (i := 0) d_MO_value_17 rfl rfl ?_
    refine fx_getR (q := 46) d_MO_value_18 lk_MO_73 (at_31 (h := _) hS) rfl rfl ?_
    refine fx_iload_n (i := 1) d_MO_value_21 rfl rfl ?_
    obtain ⟨hn5, H⟩ := H
    obtain ⟨hn6, H⟩ := H
    refine fx_lald d_MO_value_22 (at_46 (h := _) hS) hn5 hn6 (by decide) ?_
    refine fx_iload_n (i := 3) d_MO_value_23 rfl rfl ?_
    refine fx_i2l d_MO_value_24 (show zR 4 by decide) ?_
    refine fx_iload_n (i := 2) d_MO_value_25 rfl rfl ?_
    obtain ⟨hz7, H⟩ := H
    refine fx_i2l d_MO_value_26 hz7 ?_
    refine fx_lmul d_MO_value_27 ?_
    refine fx_ladd d_MO_value_28 ?_
    refine fx_iload_n (i := 3) d_MO_value_29 rfl rfl ?_
    refine fx_callV (M' := M_MO_number) (B' := (0, 0)) (vs := [.long (zL ((h.2.2.2 46 (x.toNat)) + (4 * y))), .int (zI 4)]) (rest := []) (c1 := 0) (s1 := 0) (n := 33) d_MO_value_30 ca_MO_value_243 (at_31 (h := _) hS) rfl rfl rfl ⟨by decide, by decide⟩ (Nat.le_of_ble_eq_true rfl) (Or.inl rfl) (fx_Mt.mono H fun v h8 hv => ?_)
    obtain ⟨r10, rfl, e9, H⟩ := hv
    have hS8 := e9.trans hS
    show fx_V l M_MO_value (0, 0) Q 0 0 33 [some (.ref 31), some (.int (zI x)), some (.int (zI y)), some (.int (zI 4))] [.long (zL r10)] h8
    exact fx_end (some (.long (zL r10))) ⟨rfl, d_MO_value_33⟩ (Nat.le_refl _) (Nat.le_refl _) rfl H
  · replace H := H.2 z4
    refine fx_iconst d_MO_value_10 ?_
    refine fx_goto (n := 15) d_MO_value_11 ?_
    refine fx_istore_n (i := 3) (ls2 := [some (.ref 31), some (.int (zI x)), some (.int (zI y)), some (.int (zI 2))]) d_MO_value_15 rfl (by decide) rfl ?_
    refine fx_aload_n (i := 0) d_MO_value_16 rfl rfl ?_
    refine fx_aload_n (i := 0) d_MO_value_17 rfl rfl ?_
    refine fx_getR (q := 46) d_MO_value_18 lk_MO_73 (at_31 (h := _) hS) rfl rfl ?_
    refine fx_iload_n (i := 1) d_MO_value_21 rfl rfl ?_
    obtain ⟨hn11, H⟩ := H
    obtain ⟨hn12, H⟩ := H
    refine fx_lald d_MO_value_22 (at_46 (h := _) hS) hn11 hn12 (by decide) ?_
    refine fx_iload_n (i := 3) d_MO_value_23 rfl rfl ?_
    refine fx_i2l d_MO_value_24 (show zR 2 by decide) ?_
    refine fx_iload_n (i := 2) d_MO_value_25 rfl rfl ?_
    obtain ⟨hz13, H⟩ := H
    refine fx_i2l d_MO_value_26 hz13 ?_
    refine fx_lmul d_MO_value_27 ?_
    refine fx_ladd d_MO_value_28 ?_
    refine fx_iload_n (i := 3) d_MO_value_29 rfl rfl ?_
    refine fx_callV (M' := M_MO_number) (B' := (0, 0)) (vs := [.long (zL ((h.2.2.2 46 (x.toNat)) + (2 * y))), .int (zI 2)]) (rest := []) (c1 := 0) (s1 := 0) (n := 33) d_MO_value_30 ca_MO_value_243 (at_31 (h := _) hS) rfl rfl rfl ⟨by decide, by decide⟩ (Nat.le_of_ble_eq_true rfl) (Or.inl rfl) (fx_Mt.mono H fun v h14 hv => ?_)
    obtain ⟨r16, rfl, e15, H⟩ := hv
    have hS14 := e15.trans hS
    show fx_V l M_MO_value (0, 0) Q 0 0 33 [some (.ref 31), some (.int (zI x)), some (.int (zI y)), some (.int (zI 2))] [.long (zL r16)] h14
    exact fx_end (some (.long (zL r16))) ⟨rfl, d_MO_value_33⟩ (Nat.le_refl _) (Nat.le_refl _) rfl H

set_option maxRecDepth 100000 in
set_option maxHeartbeats 4000000 in
theorem e_MO_inStrip {l : Launch} {Q : Option Value → fx_H → Prop} {h : fx_H}  {x : Int}  {a : Nat → Nat} {pp dd : Nat} (hS : h.1 = fx_S0 a pp dd) 
    (H : fx_Mt l M_MO_rowsOf (0, 0) [.int (zI x), .int (zI (h.2.1 31 16)), .int (zI (h.2.1 31 13))] h (fun v h1 => ∃ r3 : Int, v = some (.int (zI r3)) ∧ h1.1 = h.1 ∧ fx_Mt l M_MO_rowBytes (0, 0) [.ref 31] h1 (fun v h4 => ∃ r6 : Int, v = some (.int (zI r6)) ∧ h4.1 = h1.1 ∧ fx_Mt l M_MO_value (0, 0) [.ref 31, .int (zI 5), .int (zI x)] h4 (fun v h7 => ∃ r9 : Int, v = some (.long (zL r9)) ∧ h7.1 = h4.1 ∧ fx_Mt l M_MO_value (0, 0) [.ref 31, .int (zI 7), .int (zI x)] (fx_uF h7 31 20 (8 * r9)) (fun v h10 => ∃ r12 : Int, v = some (.long (zL r12)) ∧ h10.1 = (fx_uF h7 31 20 (8 * r9)).1 ∧ zR (h10.2.1 31 12) ∧ (((h10.2.1 31 12) = 3 → fx_Mt l M_MO_inFax (0, 0) [.ref 31, .int (zI (x * (h.2.1 31 13))), .int (zI r3)] (fx_uF (fx_uF h10 31 21 ((8 * r9) + (8 * r12))) 31 27 0) (fun v h15 => v = none ∧ h15.1 = (fx_uF (fx_uF h10 31 21 ((8 * r9) + (8 * r12))) 31 27 0).1 ∧ Q none h15)) ∧ (¬ ((h10.2.1 31 12) = 3) → ((¬ (h10.2.1 31 12) = 4 → ((¬ (h10.2.1 31 12) = 1 → ((¬ (h10.2.1 31 12) = 5 → fx_Mt l M_MO_inRuns (0, 0) [.ref 31, .int (zI (r6 * r3))] (fx_uF (fx_uF h10 31 21 ((8 * r9) + (8 * r12))) 31 27 0) (fun v h20 => v = none ∧ h20.1 = (fx_uF (fx_uF h10 31 21 ((8 * r9) + (8 * r12))) 31 27 0).1 ∧ zR (h20.2.1 31 22) ∧ ((¬ (h20.2.1 31 22) = 0 → Q none h20) ∧ ((h20.2.1 31 22) = 0 → fx_Mt l M_MO_spread (0, 0) [.ref 31, .int (zI (x * (h.2.1 31 13))), .int (zI r3)] h20 (fun v h24 => v = none ∧ h24.1 = h20.1 ∧ Q none h24))))) ∧ ((h10.2.1 31 12) = 5 → fx_Mt l M_MO_inTable (0, 0) [.ref 31, .int (zI (r6 * r3))] (fx_uF (fx_uF h10 31 21 ((8 * r9) + (8 * r12))) 31 27 0) (fun v h26 => v = none ∧ h26.1 = (fx_uF (fx_uF h10 31 21 ((8 * r9) + (8 * r12))) 31 27 0).1 ∧ zR (h26.2.1 31 22) ∧ ((¬ (h26.2.1 31 22) = 0 → Q none h26) ∧ ((h26.2.1 31 22) = 0 → fx_Mt l M_MO_spread (0, 0) [.ref 31, .int (zI (x * (h.2.1 31 13))), .int (zI r3)] h26 (fun v h30 => v = none ∧ h30.1 = h26.1 ∧ Q none h30))))))) ∧ ((h10.2.1 31 12) = 1 → zR (((8 * r9) + (8 * r12)) - (h10.2.1 31 20)) ∧ zR (8 * (r6 * r3)) ∧ ((¬ (((8 * r9) + (8 * r12)) - (h10.2.1 31 20)) = (8 * (r6 * r3)) → fx_Mt l M_MO_need (0, 0) [.ref 31, .int (zI 0)] (fx_uF (fx_uF h10 31 21 ((8 * r9) + (8 * r12))) 31 27 0) (fun v h35 => ∃ r37 : Int, v = some (.int (zI r37)) ∧ h35.1 = (fx_uF (fx_uF h10 31 21 ((8 * r9) + (8 * r12))) 31 27 0).1 ∧ (fx_V l M_MO_inStrip (0, 0) Q 0 0 125 [some (.ref 31), none, some (.int (zI (x * (h.2.1 31 13)))), some (.int (zI r3)), some (.int (zI (r6 * r3)))] [] h35))) ∧ ((((8 * r9) + (8 * r12)) - (h10.2.1 31 20)) = (8 * (r6 * r3)) → fx_Mt l M_MO_need (0, 0) [.ref 31, .int (zI 1)] (fx_uF (fx_uF h10 31 21 ((8 * r9) + (8 * r12))) 31 27 0) (fun v h38 => ∃ r40 : Int, v = some (.int (zI r40)) ∧ h38.1 = (fx_uF (fx_uF h10 31 21 ((8 * r9) + (8 * r12))) 31 27 0).1 ∧ (fx_V l M_MO_inStrip (0, 0) Q 0 0 125 [some (.ref 31), none, some (.int (zI (x * (h.2.1 31 13)))), some (.int (zI r3)), some (.int (zI (r6 * r3)))] [] h38))))))) ∧ ((h10.2.1 31 12) = 4 → fx_Mt l M_MO_inFax (0, 0) [.ref 31, .int (zI (x * (h.2.1 31 13))), .int (zI r3)] (fx_uF (fx_uF h10 31 21 ((8 * r9) + (8 * r12))) 31 27 0) (fun v h41 => v = none ∧ h41.1 = (fx_uF (fx_uF h10 31 21 ((8 * r9) + (8 * r12))) 31 27 0).1 ∧ Q none h41)))))))))) :
    fx_Mt l M_MO_inStrip (0, 0) [.ref 31, .int (zI x)] h Q := by
  refine fx_entry (ls := [some (.ref 31), some (.int (zI x)), none, none, none]) (by decide) (Nat.le_of_ble_eq_true rfl) rfl ?_
  refine fx_iload_n (i := 1) d_MO_inStrip_0 rfl rfl ?_
  refine fx_aload_n (i := 0) d_MO_inStrip_1 rfl rfl ?_
  refine fx_getI d_MO_inStrip_2 lk_MO_219 (at_31 (h := _) hS) rfl ?_
  refine fx_imul d_MO_inStrip_5 ?_
  refine fx_istore_n (i := 2) (ls2 := [some (.ref 31), some (.int (zI x)), some (.int (zI (x * (h.2.1 31 13)))), none, none]) d_MO_inStrip_6 rfl (by decide) rfl ?_
  refine fx_iload_n (i := 1) d_MO_inStrip_7 rfl rfl ?_
  refine fx_aload_n (i := 0) d_MO_inStrip_8 rfl rfl ?_
  refine fx_getI d_MO_inStrip_9 lk_MO_216 (at_31 (h := _) hS) rfl ?_
  refine fx_aload_n (i := 0) d_MO_inStrip_12 rfl rfl ?_
  refine fx_getI d_MO_inStrip_13 lk_MO_219 (at_31 (h := _) hS) rfl ?_
  refine fx_callS (M' := M_MO_rowsOf) (B' := (0, 0)) (vs := [.int (zI x), .int (zI (h.2.1 31 16)), .int (zI (h.2.1 31 13))]) (rest := []) (c1 := 0) (s1 := 0) (n := 19) d_MO_inStrip_16 ca_MO_inStrip_226 rfl rfl ⟨by decide, by decide⟩ (Nat.le_of_ble_eq_true rfl) (Or.inl rfl) (fx_Mt.mono H fun v h1 hv => ?_)
  obtain ⟨r3, rfl, e2, H⟩ := hv
  have hS1 := e2.trans hS
  show fx_V l M_MO_inStrip (0, 0) Q 0 0 19 [some (.ref 31), some (.int (zI x)), some (.int (zI (x * (h.2.1 31 13)))), none, none] [.int (zI r3)] h1
  refine fx_istore_n (i := 3) (ls2 := [some (.ref 31), some (.int (zI x)), some (.int (zI (x * (h.2.1 31 13)))), some (.int (zI r3)), none]) d_MO_inStrip_19 rfl (by decide) rfl ?_
  refine fx_aload_n (i := 0) d_MO_inStrip_20 rfl rfl ?_
  refine fx_callV (M' := M_MO_rowBytes) (B' := (0, 0)) (vs := []) (rest := []) (c1 := 0) (s1 := 0) (n := 24) d_MO_inStrip_21 ca_MO_inStrip_137 (at_31 (h := _) hS1) rfl rfl rfl ⟨by decide, by decide⟩ (Nat.le_of_ble_eq_true rfl) (Or.inl rfl) (fx_Mt.mono H fun v h4 hv => ?_)
  obtain ⟨r6, rfl, e5, H⟩ := hv
  have hS4 := e5.trans hS1
  show fx_V l M_MO_inStrip (0, 0) Q 0 0 24 [some (.ref 31), some (.int (zI x)), some (.int (zI (x * (h.2.1 31 13)))), some (.int (zI r3)), none] [.int (zI r6)] h4
  refine fx_iload_n (i := 3) d_MO_inStrip_24 rfl rfl ?_
  refine fx_imul d_MO_inStrip_25 ?_
  refine fx_istore (ls2 := [some (.ref 31), some (.int (zI x)), some (.int (zI (x * (h.2.1 31 13)))), some (.int (zI r3)), some (.int (zI (r6 * r3)))]) d_MO_inStrip_26 (by decide) rfl ?_
  refine fx_aload_n (i := 0) d_MO_inStrip_28 rfl rfl ?_
  refine fx_bipush (v := 8) d_MO_inStrip_29 rfl ?_
  refine fx_aload_n (i := 0) d_MO_inStrip_31 rfl rfl ?_
  refine fx_iconst d_MO_inStrip_32 ?_
  refine fx_iload_n (i := 1) d_MO_inStrip_33 rfl rfl ?_
  refine fx_callV (M' := M_MO_value) (B' := (0, 0)) (vs := [.int (zI 5), .int (zI x)]) (rest := [.int (zI 8), .ref 31]) (c1 := 0) (s1 := 0) (n := 37) d_MO_inStrip_34 ca_MO_inStrip_260 (at_31 (h := _) hS4) rfl rfl rfl ⟨by decide, by decide⟩ (Nat.le_of_ble_eq_true rfl) (Or.inl rfl) (fx_Mt.mono H fun v h7 hv => ?_)
  obtain ⟨r9, rfl, e8, H⟩ := hv
  have hS7 := e8.trans hS4
  show fx_V l M_MO_inStrip (0, 0) Q 0 0 37 [some (.ref 31), some (.int (zI x)), some (.int (zI (x * (h.2.1 31 13)))), some (.int (zI r3)), some (.int (zI (r6 * r3)))] [.long (zL r9), .int (zI 8), .ref 31] h7
  refine fx_l2i d_MO_inStrip_37 ?_
  refine fx_imul d_MO_inStrip_38 ?_
  refine fx_putI d_MO_inStrip_39 lk_MO_267 (at_31 (h := _) hS7) rfl rfl rfl ?_
  refine fx_aload_n (i := 0) d_MO_inStrip_42 rfl rfl ?_
  refine fx_aload_n (i := 0) d_MO_inStrip_43 rfl rfl ?_
  refine fx_getI d_MO_inStrip_44 lk_MO_267 (at_31 (h := _) hS7) rfl ?_
  refine fx_bipush (v := 8) d_MO_inStrip_47 rfl ?_
  refine fx_aload_n (i := 0) d_MO_inStrip_49 rfl rfl ?_
  refine fx_bipush (v := 7) d_MO_inStrip_50 rfl ?_
  refine fx_iload_n (i := 1) d_MO_inStrip_52 rfl rfl ?_
  refine fx_callV (M' := M_MO_value) (B' := (0, 0)) (vs := [.int (zI 7), .int (zI x)]) (rest := [.int (zI 8), .int (zI (8 * r9)), .ref 31]) (c1 := 0) (s1 := 0) (n := 56) d_MO_inStrip_53 ca_MO_inStrip_260 (at_31 (h := _) hS7) rfl rfl rfl ⟨by decide, by decide⟩ (Nat.le_of_ble_eq_true rfl) (Or.inl rfl) (fx_Mt.mono H fun v h10 hv => ?_)
  obtain ⟨r12, rfl, e11, H⟩ := hv
  have hS10 := e11.trans hS7
  show fx_V l M_MO_inStrip (0, 0) Q 0 0 56 [some (.ref 31), some (.int (zI x)), some (.int (zI (x * (h.2.1 31 13)))), some (.int (zI r3)), some (.int (zI (r6 * r3)))] [.long (zL r12), .int (zI 8), .int (zI (8 * r9)), .ref 31] h10
  refine fx_l2i d_MO_inStrip_56 ?_
  refine fx_imul d_MO_inStrip_57 ?_
  refine fx_iadd d_MO_inStrip_58 ?_
  refine fx_putI d_MO_inStrip_59 lk_MO_270 (at_31 (h := _) hS10) rfl rfl rfl ?_
  refine fx_aload_n (i := 0) d_MO_inStrip_62 rfl rfl ?_
  refine fx_iconst d_MO_inStrip_63 ?_
  refine fx_putI d_MO_inStrip_64 lk_MO_134 (at_31 (h := _) hS10) rfl rfl rfl ?_
  refine fx_aload_n (i := 0) d_MO_inStrip_67 rfl rfl ?_
  refine fx_getI d_MO_inStrip_68 lk_MO_180 (at_31 (h := _) hS10) rfl ?_
  refine fx_iconst d_MO_inStrip_71 ?_
  obtain ⟨hz13, H⟩ := H
  refine fx_icmp_eq (t := 83) (n := 75) d_MO_inStrip_72 hz13 (show zR 3 by decide) (fun z14 => ?_) (fun z14 => ?_)
  · replace H := H.1 z14
    refine fx_aload_n (i := 0) d_MO_inStrip_83 rfl rfl ?_
    refine fx_iload_n (i := 2) d_MO_inStrip_84 rfl rfl ?_
    refine fx_iload_n (i := 3) d_MO_inStrip_85 rfl rfl ?_
    refine fx_callV (M' := M_MO_inFax) (B' := (0, 0)) (vs := [.int (zI (x * (h.2.1 31 13))), .int (zI r3)]) (rest := []) (c1 := 0) (s1 := 0) (n := 89) d_MO_inStrip_86 ca_MO_inStrip_313 (at_31 (h := _) hS10) rfl rfl rfl ⟨by decide, by decide⟩ (Nat.le_of_ble_eq_true rfl) (Or.inl rfl) (fx_Mt.mono H fun v h15 hv => ?_)
    obtain ⟨rfl, e16, H⟩ := hv
    have hS15 := e16.trans hS10
    show fx_V l M_MO_inStrip (0, 0) Q 0 0 89 [some (.ref 31), some (.int (zI x)), some (.int (zI (x * (h.2.1 31 13)))), some (.int (zI r3)), some (.int (zI (r6 * r3)))] [] h15
    exact fx_end none ⟨rfl, d_MO_inStrip_89⟩ (Nat.le_refl _) (Nat.le_refl _) rfl H
  · replace H := H.2 z14
    refine fx_aload_n (i := 0) d_MO_inStrip_75 rfl rfl ?_
    refine fx_getI d_MO_inStrip_76 lk_MO_180 (at_31 (h := _) hS10) rfl ?_
    refine fx_iconst d_MO_inStrip_79 ?_
    refine fx_icmp_ne (t := 90) (n := 83) d_MO_inStrip_80 hz13 (show zR 4 by decide) (fun z17 => ?_) (fun z17 => ?_)
    · replace H := H.1 z17
      refine fx_aload_n (i := 0) d_MO_inStrip_90 rfl rfl ?_
      refine fx_getI d_MO_inStrip_91 lk_MO_180 (at_31 (h := _) hS10) rfl ?_
      refine fx_iconst d_MO_inStrip_94 ?_
      refine fx_icmp_ne (t := 152) (n := 98) d_MO_inStrip_95 hz13 (show zR 1 by decide) (fun z18 => ?_) (fun z18 => ?_)
      · replace H := H.1 z18
        refine fx_aload_n (i := 0) d_MO_inStrip_152 rfl rfl ?_
        refine fx_getI d_MO_inStrip_153 lk_MO_180 (at_31 (h := _) hS10) rfl ?_
        refine fx_iconst d_MO_inStrip_156 ?_
        refine fx_icmp_ne (t := 169) (n := 160) d_MO_inStrip_157 hz13 (show zR 5 by decide) (fun z19 => ?_) (fun z19 => ?_)
        · replace H := H.1 z19
          refine fx_aload_n (i := 0) d_MO_inStrip_169 rfl rfl ?_
          refine fx_iload d_MO_inStrip_170 rfl ?_
          refine fx_callV (M' := M_MO_inRuns) (B' := (0, 0)) (vs := [.int (zI (r6 * r3))]) (rest := []) (c1 := 0) (s1 := 0) (n := 175) d_MO_inStrip_172 ca_MO_inStrip_319 (at_31 (h := _) hS10) rfl rfl rfl ⟨by decide, by decide⟩ (Nat.le_of_ble_eq_true rfl) (Or.inl rfl) (fx_Mt.mono H fun v h20 hv => ?_)
          obtain ⟨rfl, e21, H⟩ := hv
          have hS20 := e21.trans hS10
          show fx_V l M_MO_inStrip (0, 0) Q 0 0 175 [some (.ref 31), some (.int (zI x)), some (.int (zI (x * (h.2.1 31 13)))), some (.int (zI r3)), some (.int (zI (r6 * r3)))] [] h20
          refine fx_aload_n (i := 0) d_MO_inStrip_175 rfl rfl ?_
          refine fx_getI d_MO_inStrip_176 lk_MO_264 (at_31 (h := _) hS20) rfl ?_
          obtain ⟨hz22, H⟩ := H
          refine fx_if_ne (t := 188) (n := 182) d_MO_inStrip_179 hz22 (fun z23 => ?_) (fun z23 => ?_)
          · replace H := H.1 z23
            exact fx_end none ⟨rfl, d_MO_inStrip_188⟩ (Nat.le_refl _) (Nat.le_refl _) rfl H
          · replace H := H.2 z23
            refine fx_aload_n (i := 0) d_MO_inStrip_182 rfl rfl ?_
            refine fx_iload_n (i := 2) d_MO_inStrip_183 rfl rfl ?_
            refine fx_iload_n (i := 3) d_MO_inStrip_184 rfl rfl ?_
            refine fx_callV (M' := M_MO_spread) (B' := (0, 0)) (vs := [.int (zI (x * (h.2.1 31 13))), .int (zI r3)]) (rest := []) (c1 := 0) (s1 := 0) (n := 188) d_MO_inStrip_185 ca_MO_inStrip_322 (at_31 (h := _) hS20) rfl rfl rfl ⟨by decide, by decide⟩ (Nat.le_of_ble_eq_true rfl) (Or.inl rfl) (fx_Mt.mono H fun v h24 hv => ?_)
            obtain ⟨rfl, e25, H⟩ := hv
            have hS24 := e25.trans hS20
            show fx_V l M_MO_inStrip (0, 0) Q 0 0 188 [some (.ref 31), some (.int (zI x)), some (.int (zI (x * (h.2.1 31 13)))), some (.int (zI r3)), some (.int (zI (r6 * r3)))] [] h24
            exact fx_end none ⟨rfl, d_MO_inStrip_188⟩ (Nat.le_refl _) (Nat.le_refl _) rfl H
        · replace H := H.2 z19
          refine fx_aload_n (i := 0) d_MO_inStrip_160 rfl rfl ?_
          refine fx_iload d_MO_inStrip_161 rfl ?_
          refine fx_callV (M' := M_MO_inTable) (B' := (0, 0)) (vs := [.int (zI (r6 * r3))]) (rest := []) (c1 := 0) (s1 := 0) (n := 166) d_MO_inStrip_163 ca_MO_inStrip_316 (at_31 (h := _) hS10) rfl rfl rfl ⟨by decide, by decide⟩ (Nat.le_of_ble_eq_true rfl) (Or.inl rfl) (fx_Mt.mono H fun v h26 hv => ?_)
          obtain ⟨rfl, e27, H⟩ := hv
          have hS26 := e27.trans hS10
          show fx_V l M_MO_inStrip (0, 0) Q 0 0 166 [some (.ref 31), some (.int (zI x)), some (.int (zI (x * (h.2.1 31 13)))), some (.int (zI r3)), some (.int (zI (r6 * r3)))] [] h26
          refine fx_goto (n := 175) d_MO_inStrip_166 ?_
          refine fx_aload_n (i := 0) d_MO_inStrip_175 rfl rfl ?_
          refine fx_getI d_MO_inStrip_176 lk_MO_264 (at_31 (h := _) hS26) rfl ?_
          obtain ⟨hz28, H⟩ := H
          refine fx_if_ne (t := 188) (n := 182) d_MO_inStrip_179 hz28 (fun z29 => ?_) (fun z29 => ?_)
          · replace H := H.1 z29
            exact fx_end none ⟨rfl, d_MO_inStrip_188⟩ (Nat.le_refl _) (Nat.le_refl _) rfl H
          · replace H := H.2 z29
            refine fx_aload_n (i := 0) d_MO_inStrip_182 rfl rfl ?_
            refine fx_iload_n (i := 2) d_MO_inStrip_183 rfl rfl ?_
            refine fx_iload_n (i := 3) d_MO_inStrip_184 rfl rfl ?_
            refine fx_callV (M' := M_MO_spread) (B' := (0, 0)) (vs := [.int (zI (x * (h.2.1 31 13))), .int (zI r3)]) (rest := []) (c1 := 0) (s1 := 0) (n := 188) d_MO_inStrip_185 ca_MO_inStrip_322 (at_31 (h := _) hS26) rfl rfl rfl ⟨by decide, by decide⟩ (Nat.le_of_ble_eq_true rfl) (Or.inl rfl) (fx_Mt.mono H fun v h30 hv => ?_)
            obtain ⟨rfl, e31, H⟩ := hv
            have hS30 := e31.trans hS26
            show fx_V l M_MO_inStrip (0, 0) Q 0 0 188 [some (.ref 31), some (.int (zI x)), some (.int (zI (x * (h.2.1 31 13)))), some (.int (zI r3)), some (.int (zI (r6 * r3)))] [] h30
            exact fx_end none ⟨rfl, d_MO_inStrip_188⟩ (Nat.le_refl _) (Nat.le_refl _) rfl H
      · replace H := H.2 z18
        refine fx_aload_n (i := 0) d_MO_inStrip_98 rfl rfl ?_
        refine fx_aload_n (i := 0) d_MO_inStrip_99 rfl rfl ?_
        refine fx_getI d_MO_inStrip_100 lk_MO_270 (at_31 (h := _) hS10) rfl ?_
        refine fx_aload_n (i := 0) d_MO_inStrip_103 rfl rfl ?_
        refine fx_getI d_MO_inStrip_104 lk_MO_267 (at_31 (h := _) hS10) rfl ?_
        refine fx_isub d_MO_inStrip_107 ?_
        refine fx_bipush (v := 8) d_MO_inStrip_108 rfl ?_
        refine fx_iload d_MO_inStrip_110 rfl ?_
        refine fx_imul d_MO_inStrip_112 ?_
        obtain ⟨hz32, H⟩ := H
        obtain ⟨hz33, H⟩ := H
        refine fx_icmp_ne (t := 120) (n := 116) d_MO_inStrip_113 hz32 hz33 (fun z34 => ?_) (fun z34 => ?_)
        · replace H := H.1 z34
          refine fx_iconst d_MO_inStrip_120 ?_
          refine fx_callV (M' := M_MO_need) (B' := (0, 0)) (vs := [.int (zI 0)]) (rest := []) (c1 := 0) (s1 := 0) (n := 124) d_MO_inStrip_121 ca_MO_inStrip_273 (at_31 (h := _) hS10) rfl rfl rfl ⟨by decide, by decide⟩ (Nat.le_of_ble_eq_true rfl) (Or.inl rfl) (fx_Mt.mono H fun v h35 hv => ?_)
          obtain ⟨r37, rfl, e36, H⟩ := hv
          have hS35 := e36.trans hS10
          show fx_V l M_MO_inStrip (0, 0) Q 0 0 124 [some (.ref 31), some (.int (zI x)), some (.int (zI (x * (h.2.1 31 13)))), some (.int (zI r3)), some (.int (zI (r6 * r3)))] [.int (zI r37)] h35
          refine fx_pop d_MO_inStrip_124 rfl ?_
          exact fx_fewer [some (.ref 31), none, some (.int (zI (x * (h.2.1 31 13)))), some (.int (zI r3)), some (.int (zI (r6 * r3)))] ⟨rfl, rfl, rfl, rfl, trivial⟩ H
        · replace H := H.2 z34
          refine fx_iconst d_MO_inStrip_116 ?_
          refine fx_goto (n := 121) d_MO_inStrip_117 ?_
          refine fx_callV (M' := M_MO_need) (B' := (0, 0)) (vs := [.int (zI 1)]) (rest := []) (c1 := 0) (s1 := 0) (n := 124) d_MO_inStrip_121 ca_MO_inStrip_273 (at_31 (h := _) hS10) rfl rfl rfl ⟨by decide, by decide⟩ (Nat.le_of_ble_eq_true rfl) (Or.inl rfl) (fx_Mt.mono H fun v h38 hv => ?_)
          obtain ⟨r40, rfl, e39, H⟩ := hv
          have hS38 := e39.trans hS10
          show fx_V l M_MO_inStrip (0, 0) Q 0 0 124 [some (.ref 31), some (.int (zI x)), some (.int (zI (x * (h.2.1 31 13)))), some (.int (zI r3)), some (.int (zI (r6 * r3)))] [.int (zI r40)] h38
          refine fx_pop d_MO_inStrip_124 rfl ?_
          exact fx_fewer [some (.ref 31), none, some (.int (zI (x * (h.2.1 31 13)))), some (.int (zI r3)), some (.int (zI (r6 * r3)))] ⟨rfl, rfl, rfl, rfl, trivial⟩ H
    · replace H := H.2 z17
      refine fx_aload_n (i := 0) d_MO_inStrip_83 rfl rfl ?_
      refine fx_iload_n (i := 2) d_MO_inStrip_84 rfl rfl ?_
      refine fx_iload_n (i := 3) d_MO_inStrip_85 rfl rfl ?_
      refine fx_callV (M' := M_MO_inFax) (B' := (0, 0)) (vs := [.int (zI (x * (h.2.1 31 13))), .int (zI r3)]) (rest := []) (c1 := 0) (s1 := 0) (n := 89) d_MO_inStrip_86 ca_MO_inStrip_313 (at_31 (h := _) hS10) rfl rfl rfl ⟨by decide, by decide⟩ (Nat.le_of_ble_eq_true rfl) (Or.inl rfl) (fx_Mt.mono H fun v h41 hv => ?_)
      obtain ⟨rfl, e42, H⟩ := hv
      have hS41 := e42.trans hS10
      show fx_V l M_MO_inStrip (0, 0) Q 0 0 89 [some (.ref 31), some (.int (zI x)), some (.int (zI (x * (h.2.1 31 13)))), some (.int (zI r3)), some (.int (zI (r6 * r3)))] [] h41
      exact fx_end none ⟨rfl, d_MO_inStrip_89⟩ (Nat.le_refl _) (Nat.le_refl _) rfl H

set_option maxRecDepth 100000 in
set_option maxHeartbeats 4000000 in
theorem w_MO_inStrip_125 {l : Launch} {Q : Option Value → fx_H → Prop} {h : fx_H}  {x2 : Int} {x3 : Int} {x4 : Int}  {a : Nat → Nat} {pp dd : Nat} (hS : h.1 = fx_S0 a pp dd) 
    (H : zR (h.2.1 31 27) ∧ zR x4 ∧ ((x4 ≤ (h.2.1 31 27) → zR (h.2.1 31 22) ∧ ((¬ (h.2.1 31 22) = 0 → Q none h) ∧ ((h.2.1 31 22) = 0 → fx_Mt l M_MO_spread (0, 0) [.ref 31, .int (zI x2), .int (zI x3)] h (fun v h6 => v = none ∧ h6.1 = h.1 ∧ Q none h6)))) ∧ (¬ (x4 ≤ (h.2.1 31 27)) → zR (h.2.1 31 22) ∧ ((¬ (h.2.1 31 22) = 0 → ((¬ (h.2.1 31 22) = 0 → Q none h) ∧ ((h.2.1 31 22) = 0 → fx_Mt l M_MO_spread (0, 0) [.ref 31, .int (zI x2), .int (zI x3)] h (fun v h11 => v = none ∧ h11.1 = h.1 ∧ Q none h11)))) ∧ ((h.2.1 31 22) = 0 → fx_Mt l M_MO_inByte (0, 0) [.ref 31] h (fun v h13 => ∃ r15 : Int, v = some (.int (zI r15)) ∧ h13.1 = h.1 ∧ fx_Mt l M_MO_store (0, 0) [.ref 31, .int (zI r15)] h13 (fun v h16 => v = none ∧ h16.1 = h13.1 ∧ (fx_V l M_MO_inStrip (0, 0) Q 0 0 125 [some (.ref 31), none, some (.int (zI x2)), some (.int (zI x3)), some (.int (zI x4))] [] h16)))))))) :
    fx_V l M_MO_inStrip (0, 0) Q 0 0 125 [some (.ref 31), none, some (.int (zI x2)), some (.int (zI x3)), some (.int (zI x4))] [] h := by
  refine fx_aload_n (i := 0) d_MO_inStrip_125 rfl rfl ?_
  refine fx_getI d_MO_inStrip_126 lk_MO_134 (at_31 (h := _) hS) rfl ?_
  refine fx_iload d_MO_inStrip_129 rfl ?_
  obtain ⟨hz1, H⟩ := H
  obtain ⟨hz2, H⟩ := H
  refine fx_icmp_ge (t := 175) (n := 134) d_MO_inStrip_131 hz1 hz2 (fun z3 => ?_) (fun z3 => ?_)
  · replace H := H.1 z3
    refine fx_aload_n (i := 0) d_MO_inStrip_175 rfl rfl ?_
    refine fx_getI d_MO_inStrip_176 lk_MO_264 (at_31 (h := _) hS) rfl ?_
    obtain ⟨hz4, H⟩ := H
    refine fx_if_ne (t := 188) (n := 182) d_MO_inStrip_179 hz4 (fun z5 => ?_) (fun z5 => ?_)
    · replace H := H.1 z5
      exact fx_end none ⟨rfl, d_MO_inStrip_188⟩ (Nat.le_refl _) (Nat.le_refl _) rfl H
    · replace H := H.2 z5
      refine fx_aload_n (i := 0) d_MO_inStrip_182 rfl rfl ?_
      refine fx_iload_n (i := 2) d_MO_inStrip_183 rfl rfl ?_
      refine fx_iload_n (i := 3) d_MO_inStrip_184 rfl rfl ?_
      refine fx_callV (M' := M_MO_spread) (B' := (0, 0)) (vs := [.int (zI x2), .int (zI x3)]) (rest := []) (c1 := 0) (s1 := 0) (n := 188) d_MO_inStrip_185 ca_MO_inStrip_322 (at_31 (h := _) hS) rfl rfl rfl ⟨by decide, by decide⟩ (Nat.le_of_ble_eq_true rfl) (Or.inl rfl) (fx_Mt.mono H fun v h6 hv => ?_)
      obtain ⟨rfl, e7, H⟩ := hv
      have hS6 := e7.trans hS
      show fx_V l M_MO_inStrip (0, 0) Q 0 0 188 [some (.ref 31), none, some (.int (zI x2)), some (.int (zI x3)), some (.int (zI x4))] [] h6
      exact fx_end none ⟨rfl, d_MO_inStrip_188⟩ (Nat.le_refl _) (Nat.le_refl _) rfl H
  · replace H := H.2 z3
    refine fx_aload_n (i := 0) d_MO_inStrip_134 rfl rfl ?_
    refine fx_getI d_MO_inStrip_135 lk_MO_264 (at_31 (h := _) hS) rfl ?_
    obtain ⟨hz8, H⟩ := H
    refine fx_if_ne (t := 175) (n := 141) d_MO_inStrip_138 hz8 (fun z9 => ?_) (fun z9 => ?_)
    · replace H := H.1 z9
      refine fx_aload_n (i := 0) d_MO_inStrip_175 rfl rfl ?_
      refine fx_getI d_MO_inStrip_176 lk_MO_264 (at_31 (h := _) hS) rfl ?_
      refine fx_if_ne (t := 188) (n := 182) d_MO_inStrip_179 hz8 (fun z10 => ?_) (fun z10 => ?_)
      · replace H := H.1 z10
        exact fx_end none ⟨rfl, d_MO_inStrip_188⟩ (Nat.le_refl _) (Nat.le_refl _) rfl H
      · replace H := H.2 z10
        refine fx_aload_n (i := 0) d_MO_inStrip_182 rfl rfl ?_
        refine fx_iload_n (i := 2) d_MO_inStrip_183 rfl rfl ?_
        refine fx_iload_n (i := 3) d_MO_inStrip_184 rfl rfl ?_
        refine fx_callV (M' := M_MO_spread) (B' := (0, 0)) (vs := [.int (zI x2), .int (zI x3)]) (rest := []) (c1 := 0) (s1 := 0) (n := 188) d_MO_inStrip_185 ca_MO_inStrip_322 (at_31 (h := _) hS) rfl rfl rfl ⟨by decide, by decide⟩ (Nat.le_of_ble_eq_true rfl) (Or.inl rfl) (fx_Mt.mono H fun v h11 hv => ?_)
        obtain ⟨rfl, e12, H⟩ := hv
        have hS11 := e12.trans hS
        show fx_V l M_MO_inStrip (0, 0) Q 0 0 188 [some (.ref 31), none, some (.int (zI x2)), some (.int (zI x3)), some (.int (zI x4))] [] h11
        exact fx_end none ⟨rfl, d_MO_inStrip_188⟩ (Nat.le_refl _) (Nat.le_refl _) rfl H
    · replace H := H.2 z9
      refine fx_aload_n (i := 0) d_MO_inStrip_141 rfl rfl ?_
      refine fx_aload_n (i := 0) d_MO_inStrip_142 rfl rfl ?_
      refine fx_callV (M' := M_MO_inByte) (B' := (0, 0)) (vs := []) (rest := [.ref 31]) (c1 := 0) (s1 := 0) (n := 146) d_MO_inStrip_143 ca_MO_inStrip_283 (at_31 (h := _) hS) rfl rfl rfl ⟨by decide, by decide⟩ (Nat.le_of_ble_eq_true rfl) (Or.inl rfl) (fx_Mt.mono H fun v h13 hv => ?_)
      obtain ⟨r15, rfl, e14, H⟩ := hv
      have hS13 := e14.trans hS
      show fx_V l M_MO_inStrip (0, 0) Q 0 0 146 [some (.ref 31), none, some (.int (zI x2)), some (.int (zI x3)), some (.int (zI x4))] [.int (zI r15), .ref 31] h13
      refine fx_callV (M' := M_MO_store) (B' := (0, 0)) (vs := [.int (zI r15)]) (rest := []) (c1 := 0) (s1 := 0) (n := 149) d_MO_inStrip_146 ca_MO_inStrip_286 (at_31 (h := _) hS13) rfl rfl rfl ⟨by decide, by decide⟩ (Nat.le_of_ble_eq_true rfl) (Or.inl rfl) (fx_Mt.mono H fun v h16 hv => ?_)
      obtain ⟨rfl, e17, H⟩ := hv
      have hS16 := e17.trans hS13
      show fx_V l M_MO_inStrip (0, 0) Q 0 0 149 [some (.ref 31), none, some (.int (zI x2)), some (.int (zI x3)), some (.int (zI x4))] [] h16
      refine fx_goto (n := 125) d_MO_inStrip_149 ?_
      exact H

set_option maxRecDepth 100000 in
set_option maxHeartbeats 4000000 in
theorem e_MO_inFax {l : Launch} {Q : Option Value → fx_H → Prop} {h : fx_H}  {x : Int} {y : Int}  {a : Nat → Nat} {pp dd : Nat} (hS : h.1 = fx_S0 a pp dd) 
    (H : (fx_V l M_MO_inFax (0, 0) Q 0 0 2 [some (.ref 31), some (.int (zI x)), some (.int (zI y)), some (.int (zI x)), none, none] [] h)) :
    fx_Mt l M_MO_inFax (0, 0) [.ref 31, .int (zI x), .int (zI y)] h Q := by
  refine fx_entry (ls := [some (.ref 31), some (.int (zI x)), some (.int (zI y)), none, none, none]) (by decide) (Nat.le_of_ble_eq_true rfl) rfl ?_
  refine fx_iload_n (i := 1) d_MO_inFax_0 rfl rfl ?_
  refine fx_istore_n (i := 3) (ls2 := [some (.ref 31), some (.int (zI x)), some (.int (zI y)), some (.int (zI x)), none, none]) d_MO_inFax_1 rfl (by decide) rfl ?_
  exact H

set_option maxRecDepth 100000 in
set_option maxHeartbeats 4000000 in
theorem w_MO_inFax_2 {l : Launch} {Q : Option Value → fx_H → Prop} {h : fx_H}  {x1 : Int} {x2 : Int} {x3 : Int}  {a : Nat → Nat} {pp dd : Nat} (hS : h.1 = fx_S0 a pp dd) 
    (H : zR x3 ∧ zR (x1 + x2) ∧ (((x1 + x2) ≤ x3 → zR (h.2.1 31 12) ∧ ((¬ (h.2.1 31 12) = 4 → fx_Mt l M_MO_inRest (0, 0) [.ref 31] h (fun v h6 => v = none ∧ h6.1 = h.1 ∧ Q none h6)) ∧ ((h.2.1 31 12) = 4 → fx_Mt l M_MO_inBits (0, 0) [.ref 31, .int (zI 12)] h (fun v h8 => ∃ r10 : Int, v = some (.int (zI r10)) ∧ h8.1 = h.1 ∧ zR r10 ∧ ((¬ r10 = 1 → fx_Mt l M_MO_need (0, 0) [.ref 31, .int (zI 0)] h8 (fun v h13 => ∃ r15 : Int, v = some (.int (zI r15)) ∧ h13.1 = h8.1 ∧ fx_Mt l M_MO_inBits (0, 0) [.ref 31, .int (zI 12)] h13 (fun v h16 => ∃ r18 : Int, v = some (.int (zI r18)) ∧ h16.1 = h13.1 ∧ zR r18 ∧ ((¬ r18 = 1 → fx_Mt l M_MO_need (0, 0) [.ref 31, .int (zI 0)] h16 (fun v h21 => ∃ r23 : Int, v = some (.int (zI r23)) ∧ h21.1 = h16.1 ∧ fx_Mt l M_MO_inRest (0, 0) [.ref 31] h21 (fun v h24 => v = none ∧ h24.1 = h21.1 ∧ Q none h24))) ∧ (r18 = 1 → fx_Mt l M_MO_need (0, 0) [.ref 31, .int (zI 1)] h16 (fun v h26 => ∃ r28 : Int, v = some (.int (zI r28)) ∧ h26.1 = h16.1 ∧ fx_Mt l M_MO_inRest (0, 0) [.ref 31] h26 (fun v h29 => v = none ∧ h29.1 = h26.1 ∧ Q none h29))))))) ∧ (r10 = 1 → fx_Mt l M_MO_need (0, 0) [.ref 31, .int (zI 1)] h8 (fun v h31 => ∃ r33 : Int, v = some (.int (zI r33)) ∧ h31.1 = h8.1 ∧ fx_Mt l M_MO_inBits (0, 0) [.ref 31, .int (zI 12)] h31 (fun v h34 => ∃ r36 : Int, v = some (.int (zI r36)) ∧ h34.1 = h31.1 ∧ zR r36 ∧ ((¬ r36 = 1 → fx_Mt l M_MO_need (0, 0) [.ref 31, .int (zI 0)] h34 (fun v h39 => ∃ r41 : Int, v = some (.int (zI r41)) ∧ h39.1 = h34.1 ∧ fx_Mt l M_MO_inRest (0, 0) [.ref 31] h39 (fun v h42 => v = none ∧ h42.1 = h39.1 ∧ Q none h42))) ∧ (r36 = 1 → fx_Mt l M_MO_need (0, 0) [.ref 31, .int (zI 1)] h34 (fun v h44 => ∃ r46 : Int, v = some (.int (zI r46)) ∧ h44.1 = h34.1 ∧ fx_Mt l M_MO_inRest (0, 0) [.ref 31] h44 (fun v h47 => v = none ∧ h47.1 = h44.1 ∧ Q none h47)))))))))))) ∧ (¬ ((x1 + x2) ≤ x3) → zR (h.2.1 31 22) ∧ ((¬ (h.2.1 31 22) = 0 → zR (h.2.1 31 12) ∧ ((¬ (h.2.1 31 12) = 4 → fx_Mt l M_MO_inRest (0, 0) [.ref 31] h (fun v h53 => v = none ∧ h53.1 = h.1 ∧ Q none h53)) ∧ ((h.2.1 31 12) = 4 → fx_Mt l M_MO_inBits (0, 0) [.ref 31, .int (zI 12)] h (fun v h55 => ∃ r57 : Int, v = some (.int (zI r57)) ∧ h55.1 = h.1 ∧ zR r57 ∧ ((¬ r57 = 1 → fx_Mt l M_MO_need (0, 0) [.ref 31, .int (zI 0)] h55 (fun v h60 => ∃ r62 : Int, v = some (.int (zI r62)) ∧ h60.1 = h55.1 ∧ fx_Mt l M_MO_inBits (0, 0) [.ref 31, .int (zI 12)] h60 (fun v h63 => ∃ r65 : Int, v = some (.int (zI r65)) ∧ h63.1 = h60.1 ∧ zR r65 ∧ ((¬ r65 = 1 → fx_Mt l M_MO_need (0, 0) [.ref 31, .int (zI 0)] h63 (fun v h68 => ∃ r70 : Int, v = some (.int (zI r70)) ∧ h68.1 = h63.1 ∧ fx_Mt l M_MO_inRest (0, 0) [.ref 31] h68 (fun v h71 => v = none ∧ h71.1 = h68.1 ∧ Q none h71))) ∧ (r65 = 1 → fx_Mt l M_MO_need (0, 0) [.ref 31, .int (zI 1)] h63 (fun v h73 => ∃ r75 : Int, v = some (.int (zI r75)) ∧ h73.1 = h63.1 ∧ fx_Mt l M_MO_inRest (0, 0) [.ref 31] h73 (fun v h76 => v = none ∧ h76.1 = h73.1 ∧ Q none h76))))))) ∧ (r57 = 1 → fx_Mt l M_MO_need (0, 0) [.ref 31, .int (zI 1)] h55 (fun v h78 => ∃ r80 : Int, v = some (.int (zI r80)) ∧ h78.1 = h55.1 ∧ fx_Mt l M_MO_inBits (0, 0) [.ref 31, .int (zI 12)] h78 (fun v h81 => ∃ r83 : Int, v = some (.int (zI r83)) ∧ h81.1 = h78.1 ∧ zR r83 ∧ ((¬ r83 = 1 → fx_Mt l M_MO_need (0, 0) [.ref 31, .int (zI 0)] h81 (fun v h86 => ∃ r88 : Int, v = some (.int (zI r88)) ∧ h86.1 = h81.1 ∧ fx_Mt l M_MO_inRest (0, 0) [.ref 31] h86 (fun v h89 => v = none ∧ h89.1 = h86.1 ∧ Q none h89))) ∧ (r83 = 1 → fx_Mt l M_MO_need (0, 0) [.ref 31, .int (zI 1)] h81 (fun v h91 => ∃ r93 : Int, v = some (.int (zI r93)) ∧ h91.1 = h81.1 ∧ fx_Mt l M_MO_inRest (0, 0) [.ref 31] h91 (fun v h94 => v = none ∧ h94.1 = h91.1 ∧ Q none h94)))))))))))) ∧ ((h.2.1 31 22) = 0 → (fx_V l M_MO_inFax (0, 0) Q 0 0 19 [some (.ref 31), some (.int (zI x1)), some (.int (zI x2)), some (.int (zI x3)), some (.int (zI 0)), none] [] h)))))) :
    fx_V l M_MO_inFax (0, 0) Q 0 0 2 [some (.ref 31), some (.int (zI x1)), some (.int (zI x2)), some (.int (zI x3)), none, none] [] h := by
  refine fx_iload_n (i := 3) d_MO_inFax_2 rfl rfl ?_
  refine fx_iload_n (i := 1) d_MO_inFax_3 rfl rfl ?_
  refine fx_iload_n (i := 2) d_MO_inFax_4 rfl rfl ?_
  refine fx_iadd d_MO_inFax_5 ?_
  obtain ⟨hz1, H⟩ := H
  obtain ⟨hz2, H⟩ := H
  refine fx_icmp_ge (t := 191) (n := 9) d_MO_inFax_6 hz1 hz2 (fun z3 => ?_) (fun z3 => ?_)
  · replace H := H.1 z3
    refine fx_aload_n (i := 0) d_MO_inFax_191 rfl rfl ?_
    refine fx_getI d_MO_inFax_192 lk_MO_180 (at_31 (h := _) hS) rfl ?_
    refine fx_iconst d_MO_inFax_195 ?_
    obtain ⟨hz4, H⟩ := H
    refine fx_icmp_ne (t := 239) (n := 199) d_MO_inFax_196 hz4 (show zR 4 by decide) (fun z5 => ?_) (fun z5 => ?_)
    · replace H := H.1 z5
      refine fx_aload_n (i := 0) d_MO_inFax_239 rfl rfl ?_
      refine fx_callV (M' := M_MO_inRest) (B' := (0, 0)) (vs := []) (rest := []) (c1 := 0) (s1 := 0) (n := 243) d_MO_inFax_240 ca_MO_inFax_295 (at_31 (h := _) hS) rfl rfl rfl ⟨by decide, by decide⟩ (Nat.le_of_ble_eq_true rfl) (Or.inl rfl) (fx_Mt.mono H fun v h6 hv => ?_)
      obtain ⟨rfl, e7, H⟩ := hv
      have hS6 := e7.trans hS
      show fx_V l M_MO_inFax (0, 0) Q 0 0 243 [some (.ref 31), some (.int (zI x1)), some (.int (zI x2)), some (.int (zI x3)), none, none] [] h6
      exact fx_end none ⟨rfl, d_MO_inFax_243⟩ (Nat.le_refl _) (Nat.le_refl _) rfl H
    · replace H := H.2 z5
      refine fx_aload_n (i := 0) d_MO_inFax_199 rfl rfl ?_
      refine fx_aload_n (i := 0) d_MO_inFax_200 rfl rfl ?_
      refine fx_bipush (v := 12) d_MO_inFax_201 rfl ?_
      refine fx_callV (M' := M_MO_inBits) (B' := (0, 0)) (vs := [.int (zI 12)]) (rest := [.ref 31]) (c1 := 0) (s1 := 0) (n := 206) d_MO_inFax_203 ca_MO_inFax_280 (at_31 (h := _) hS) rfl rfl rfl ⟨by decide, by decide⟩ (Nat.le_of_ble_eq_true rfl) (Or.inl rfl) (fx_Mt.mono H fun v h8 hv => ?_)
      obtain ⟨r10, rfl, e9, H⟩ := hv
      have hS8 := e9.trans hS
      show fx_V l M_MO_inFax (0, 0) Q 0 0 206 [some (.ref 31), some (.int (zI x1)), some (.int (zI x2)), some (.int (zI x3)), none, none] [.int (zI r10), .ref 31] h8
      refine fx_iconst d_MO_inFax_206 ?_
      obtain ⟨hz11, H⟩ := H
      refine fx_icmp_ne (t := 214) (n := 210) d_MO_inFax_207 hz11 (show zR 1 by decide) (fun z12 => ?_) (fun z12 => ?_)
      · replace H := H.1 z12
        refine fx_iconst d_MO_inFax_214 ?_
        refine fx_callV (M' := M_MO_need) (B' := (0, 0)) (vs := [.int (zI 0)]) (rest := []) (c1 := 0) (s1 := 0) (n := 218) d_MO_inFax_215 ca_MO_inFax_273 (at_31 (h := _) hS8) rfl rfl rfl ⟨by decide, by decide⟩ (Nat.le_of_ble_eq_true rfl) (Or.inl rfl) (fx_Mt.mono H fun v h13 hv => ?_)
        obtain ⟨r15, rfl, e14, H⟩ := hv
        have hS13 := e14.trans hS8
        show fx_V l M_MO_inFax (0, 0) Q 0 0 218 [some (.ref 31), some (.int (zI x1)), some (.int (zI x2)), some (.int (zI x3)), none, none] [.int (zI r15)] h13
        refine fx_pop d_MO_inFax_218 rfl ?_
        refine fx_aload_n (i := 0) d_MO_inFax_219 rfl rfl ?_
        refine fx_aload_n (i := 0) d_MO_inFax_220 rfl rfl ?_
        refine fx_bipush (v := 12) d_MO_inFax_221 rfl ?_
        refine fx_callV (M' := M_MO_inBits) (B' := (0, 0)) (vs := [.int (zI 12)]) (rest := [.ref 31]) (c1 := 0) (s1 := 0) (n := 226) d_MO_inFax_223 ca_MO_inFax_280 (at_31 (h := _) hS13) rfl rfl rfl ⟨by decide, by decide⟩ (Nat.le_of_ble_eq_true rfl) (Or.inl rfl) (fx_Mt.mono H fun v h16 hv => ?_)
        obtain ⟨r18, rfl, e17, H⟩ := hv
        have hS16 := e17.trans hS13
        show fx_V l M_MO_inFax (0, 0) Q 0 0 226 [some (.ref 31), some (.int (zI x1)), some (.int (zI x2)), some (.int (zI x3)), none, none] [.int (zI r18), .ref 31] h16
        refine fx_iconst d_MO_inFax_226 ?_
        obtain ⟨hz19, H⟩ := H
        refine fx_icmp_ne (t := 234) (n := 230) d_MO_inFax_227 hz19 (show zR 1 by decide) (fun z20 => ?_) (fun z20 => ?_)
        · replace H := H.1 z20
          refine fx_iconst d_MO_inFax_234 ?_
          refine fx_callV (M' := M_MO_need) (B' := (0, 0)) (vs := [.int (zI 0)]) (rest := []) (c1 := 0) (s1 := 0) (n := 238) d_MO_inFax_235 ca_MO_inFax_273 (at_31 (h := _) hS16) rfl rfl rfl ⟨by decide, by decide⟩ (Nat.le_of_ble_eq_true rfl) (Or.inl rfl) (fx_Mt.mono H fun v h21 hv => ?_)
          obtain ⟨r23, rfl, e22, H⟩ := hv
          have hS21 := e22.trans hS16
          show fx_V l M_MO_inFax (0, 0) Q 0 0 238 [some (.ref 31), some (.int (zI x1)), some (.int (zI x2)), some (.int (zI x3)), none, none] [.int (zI r23)] h21
          refine fx_pop d_MO_inFax_238 rfl ?_
          refine fx_aload_n (i := 0) d_MO_inFax_239 rfl rfl ?_
          refine fx_callV (M' := M_MO_inRest) (B' := (0, 0)) (vs := []) (rest := []) (c1 := 0) (s1 := 0) (n := 243) d_MO_inFax_240 ca_MO_inFax_295 (at_31 (h := _) hS21) rfl rfl rfl ⟨by decide, by decide⟩ (Nat.le_of_ble_eq_true rfl) (Or.inl rfl) (fx_Mt.mono H fun v h24 hv => ?_)
          obtain ⟨rfl, e25, H⟩ := hv
          have hS24 := e25.trans hS21
          show fx_V l M_MO_inFax (0, 0) Q 0 0 243 [some (.ref 31), some (.int (zI x1)), some (.int (zI x2)), some (.int (zI x3)), none, none] [] h24
          exact fx_end none ⟨rfl, d_MO_inFax_243⟩ (Nat.le_refl _) (Nat.le_refl _) rfl H
        · replace H := H.2 z20
          refine fx_iconst d_MO_inFax_230 ?_
          refine fx_goto (n := 235) d_MO_inFax_231 ?_
          refine fx_callV (M' := M_MO_need) (B' := (0, 0)) (vs := [.int (zI 1)]) (rest := []) (c1 := 0) (s1 := 0) (n := 238) d_MO_inFax_235 ca_MO_inFax_273 (at_31 (h := _) hS16) rfl rfl rfl ⟨by decide, by decide⟩ (Nat.le_of_ble_eq_true rfl) (Or.inl rfl) (fx_Mt.mono H fun v h26 hv => ?_)
          obtain ⟨r28, rfl, e27, H⟩ := hv
          have hS26 := e27.trans hS16
          show fx_V l M_MO_inFax (0, 0) Q 0 0 238 [some (.ref 31), some (.int (zI x1)), some (.int (zI x2)), some (.int (zI x3)), none, none] [.int (zI r28)] h26
          refine fx_pop d_MO_inFax_238 rfl ?_
          refine fx_aload_n (i := 0) d_MO_inFax_239 rfl rfl ?_
          refine fx_callV (M' := M_MO_inRest) (B' := (0, 0)) (vs := []) (rest := []) (c1 := 0) (s1 := 0) (n := 243) d_MO_inFax_240 ca_MO_inFax_295 (at_31 (h := _) hS26) rfl rfl rfl ⟨by decide, by decide⟩ (Nat.le_of_ble_eq_true rfl) (Or.inl rfl) (fx_Mt.mono H fun v h29 hv => ?_)
          obtain ⟨rfl, e30, H⟩ := hv
          have hS29 := e30.trans hS26
          show fx_V l M_MO_inFax (0, 0) Q 0 0 243 [some (.ref 31), some (.int (zI x1)), some (.int (zI x2)), some (.int (zI x3)), none, none] [] h29
          exact fx_end none ⟨rfl, d_MO_inFax_243⟩ (Nat.le_refl _) (Nat.le_refl _) rfl H
      · replace H := H.2 z12
        refine fx_iconst d_MO_inFax_210 ?_
        refine fx_goto (n := 215) d_MO_inFax_211 ?_
        refine fx_callV (M' := M_MO_need) (B' := (0, 0)) (vs := [.int (zI 1)]) (rest := []) (c1 := 0) (s1 := 0) (n := 218) d_MO_inFax_215 ca_MO_inFax_273 (at_31 (h := _) hS8) rfl rfl rfl ⟨by decide, by decide⟩ (Nat.le_of_ble_eq_true rfl) (Or.inl rfl) (fx_Mt.mono H fun v h31 hv => ?_)
        obtain ⟨r33, rfl, e32, H⟩ := hv
        have hS31 := e32.trans hS8
        show fx_V l M_MO_inFax (0, 0) Q 0 0 218 [some (.ref 31), some (.int (zI x1)), some (.int (zI x2)), some (.int (zI x3)), none, none] [.int (zI r33)] h31
        refine fx_pop d_MO_inFax_218 rfl ?_
        refine fx_aload_n (i := 0) d_MO_inFax_219 rfl rfl ?_
        refine fx_aload_n (i := 0) d_MO_inFax_220 rfl rfl ?_
        refine fx_bipush (v := 12) d_MO_inFax_221 rfl ?_
        refine fx_callV (M' := M_MO_inBits) (B' := (0, 0)) (vs := [.int (zI 12)]) (rest := [.ref 31]) (c1 := 0) (s1 := 0) (n := 226) d_MO_inFax_223 ca_MO_inFax_280 (at_31 (h := _) hS31) rfl rfl rfl ⟨by decide, by decide⟩ (Nat.le_of_ble_eq_true rfl) (Or.inl rfl) (fx_Mt.mono H fun v h34 hv => ?_)
        obtain ⟨r36, rfl, e35, H⟩ := hv
        have hS34 := e35.trans hS31
        show fx_V l M_MO_inFax (0, 0) Q 0 0 226 [some (.ref 31), some (.int (zI x1)), some (.int (zI x2)), some (.int (zI x3)), none, none] [.int (zI r36), .ref 31] h34
        refine fx_iconst d_MO_inFax_226 ?_
        obtain ⟨hz37, H⟩ := H
        refine fx_icmp_ne (t := 234) (n := 230) d_MO_inFax_227 hz37 (show zR 1 by decide) (fun z38 => ?_) (fun z38 => ?_)
        · replace H := H.1 z38
          refine fx_iconst d_MO_inFax_234 ?_
          refine fx_callV (M' := M_MO_need) (B' := (0, 0)) (vs := [.int (zI 0)]) (rest := []) (c1 := 0) (s1 := 0) (n := 238) d_MO_inFax_235 ca_MO_inFax_273 (at_31 (h := _) hS34) rfl rfl rfl ⟨by decide, by decide⟩ (Nat.le_of_ble_eq_true rfl) (Or.inl rfl) (fx_Mt.mono H fun v h39 hv => ?_)
          obtain ⟨r41, rfl, e40, H⟩ := hv
          have hS39 := e40.trans hS34
          show fx_V l M_MO_inFax (0, 0) Q 0 0 238 [some (.ref 31), some (.int (zI x1)), some (.int (zI x2)), some (.int (zI x3)), none, none] [.int (zI r41)] h39
          refine fx_pop d_MO_inFax_238 rfl ?_
          refine fx_aload_n (i := 0) d_MO_inFax_239 rfl rfl ?_
          refine fx_callV (M' := M_MO_inRest) (B' := (0, 0)) (vs := []) (rest := []) (c1 := 0) (s1 := 0) (n := 243) d_MO_inFax_240 ca_MO_inFax_295 (at_31 (h := _) hS39) rfl rfl rfl ⟨by decide, by decide⟩ (Nat.le_of_ble_eq_true rfl) (Or.inl rfl) (fx_Mt.mono H fun v h42 hv => ?_)
          obtain ⟨rfl, e43, H⟩ := hv
          have hS42 := e43.trans hS39
          show fx_V l M_MO_inFax (0, 0) Q 0 0 243 [some (.ref 31), some (.int (zI x1)), some (.int (zI x2)), some (.int (zI x3)), none, none] [] h42
          exact fx_end none ⟨rfl, d_MO_inFax_243⟩ (Nat.le_refl _) (Nat.le_refl _) rfl H
        · replace H := H.2 z38
          refine fx_iconst d_MO_inFax_230 ?_
          refine fx_goto (n := 235) d_MO_inFax_231 ?_
          refine fx_callV (M' := M_MO_need) (B' := (0, 0)) (vs := [.int (zI 1)]) (rest := []) (c1 := 0) (s1 := 0) (n := 238) d_MO_inFax_235 ca_MO_inFax_273 (at_31 (h := _) hS34) rfl rfl rfl ⟨by decide, by decide⟩ (Nat.le_of_ble_eq_true rfl) (Or.inl rfl) (fx_Mt.mono H fun v h44 hv => ?_)
          obtain ⟨r46, rfl, e45, H⟩ := hv
          have hS44 := e45.trans hS34
          show fx_V l M_MO_inFax (0, 0) Q 0 0 238 [some (.ref 31), some (.int (zI x1)), some (.int (zI x2)), some (.int (zI x3)), none, none] [.int (zI r46)] h44
          refine fx_pop d_MO_inFax_238 rfl ?_
          refine fx_aload_n (i := 0) d_MO_inFax_239 rfl rfl ?_
          refine fx_callV (M' := M_MO_inRest) (B' := (0, 0)) (vs := []) (rest := []) (c1 := 0) (s1 := 0) (n := 243) d_MO_inFax_240 ca_MO_inFax_295 (at_31 (h := _) hS44) rfl rfl rfl ⟨by decide, by decide⟩ (Nat.le_of_ble_eq_true rfl) (Or.inl rfl) (fx_Mt.mono H fun v h47 hv => ?_)
          obtain ⟨rfl, e48, H⟩ := hv
          have hS47 := e48.trans hS44
          show fx_V l M_MO_inFax (0, 0) Q 0 0 243 [some (.ref 31), some (.int (zI x1)), some (.int (zI x2)), some (.int (zI x3)), none, none] [] h47
          exact fx_end none ⟨rfl, d_MO_inFax_243⟩ (Nat.le_refl _) (Nat.le_refl _) rfl H
  · replace H := H.2 z3
    refine fx_aload_n (i := 0) d_MO_inFax_9 rfl rfl ?_
    refine fx_getI d_MO_inFax_10 lk_MO_264 (at_31 (h := _) hS) rfl ?_
    obtain ⟨hz49, H⟩ := H
    refine fx_if_ne (t := 191) (n := 16) d_MO_inFax_13 hz49 (fun z50 => ?_) (fun z50 => ?_)
    · replace H := H.1 z50
      refine fx_aload_n (i := 0) d_MO_inFax_191 rfl rfl ?_
      refine fx_getI d_MO_inFax_192 lk_MO_180 (at_31 (h := _) hS) rfl ?_
      refine fx_iconst d_MO_inFax_195 ?_
      obtain ⟨hz51, H⟩ := H
      refine fx_icmp_ne (t := 239) (n := 199) d_MO_inFax_196 hz51 (show zR 4 by decide) (fun z52 => ?_) (fun z52 => ?_)
      · replace H := H.1 z52
        refine fx_aload_n (i := 0) d_MO_inFax_239 rfl rfl ?_
        refine fx_callV (M' := M_MO_inRest) (B' := (0, 0)) (vs := []) (rest := []) (c1 := 0) (s1 := 0) (n := 243) d_MO_inFax_240 ca_MO_inFax_295 (at_31 (h := _) hS) rfl rfl rfl ⟨by decide, by decide⟩ (Nat.le_of_ble_eq_true rfl) (Or.inl rfl) (fx_Mt.mono H fun v h53 hv => ?_)
        obtain ⟨rfl, e54, H⟩ := hv
        have hS53 := e54.trans hS
        show fx_V l M_MO_inFax (0, 0) Q 0 0 243 [some (.ref 31), some (.int (zI x1)), some (.int (zI x2)), some (.int (zI x3)), none, none] [] h53
        exact fx_end none ⟨rfl, d_MO_inFax_243⟩ (Nat.le_refl _) (Nat.le_refl _) rfl H
      · replace H := H.2 z52
        refine fx_aload_n (i := 0) d_MO_inFax_199 rfl rfl ?_
        refine fx_aload_n (i := 0) d_MO_inFax_200 rfl rfl ?_
        refine fx_bipush (v := 12) d_MO_inFax_201 rfl ?_
        refine fx_callV (M' := M_MO_inBits) (B' := (0, 0)) (vs := [.int (zI 12)]) (rest := [.ref 31]) (c1 := 0) (s1 := 0) (n := 206) d_MO_inFax_203 ca_MO_inFax_280 (at_31 (h := _) hS) rfl rfl rfl ⟨by decide, by decide⟩ (Nat.le_of_ble_eq_true rfl) (Or.inl rfl) (fx_Mt.mono H fun v h55 hv => ?_)
        obtain ⟨r57, rfl, e56, H⟩ := hv
        have hS55 := e56.trans hS
        show fx_V l M_MO_inFax (0, 0) Q 0 0 206 [some (.ref 31), some (.int (zI x1)), some (.int (zI x2)), some (.int (zI x3)), none, none] [.int (zI r57), .ref 31] h55
        refine fx_iconst d_MO_inFax_206 ?_
        obtain ⟨hz58, H⟩ := H
        refine fx_icmp_ne (t := 214) (n := 210) d_MO_inFax_207 hz58 (show zR 1 by decide) (fun z59 => ?_) (fun z59 => ?_)
        · replace H := H.1 z59
          refine fx_iconst d_MO_inFax_214 ?_
          refine fx_callV (M' := M_MO_need) (B' := (0, 0)) (vs := [.int (zI 0)]) (rest := []) (c1 := 0) (s1 := 0) (n := 218) d_MO_inFax_215 ca_MO_inFax_273 (at_31 (h := _) hS55) rfl rfl rfl ⟨by decide, by decide⟩ (Nat.le_of_ble_eq_true rfl) (Or.inl rfl) (fx_Mt.mono H fun v h60 hv => ?_)
          obtain ⟨r62, rfl, e61, H⟩ := hv
          have hS60 := e61.trans hS55
          show fx_V l M_MO_inFax (0, 0) Q 0 0 218 [some (.ref 31), some (.int (zI x1)), some (.int (zI x2)), some (.int (zI x3)), none, none] [.int (zI r62)] h60
          refine fx_pop d_MO_inFax_218 rfl ?_
          refine fx_aload_n (i := 0) d_MO_inFax_219 rfl rfl ?_
          refine fx_aload_n (i := 0) d_MO_inFax_220 rfl rfl ?_
          refine fx_bipush (v := 12) d_MO_inFax_221 rfl ?_
          refine fx_callV (M' := M_MO_inBits) (B' := (0, 0)) (vs := [.int (zI 12)]) (rest := [.ref 31]) (c1 := 0) (s1 := 0) (n := 226) d_MO_inFax_223 ca_MO_inFax_280 (at_31 (h := _) hS60) rfl rfl rfl ⟨by decide, by decide⟩ (Nat.le_of_ble_eq_true rfl) (Or.inl rfl) (fx_Mt.mono H fun v h63 hv => ?_)
          obtain ⟨r65, rfl, e64, H⟩ := hv
          have hS63 := e64.trans hS60
          show fx_V l M_MO_inFax (0, 0) Q 0 0 226 [some (.ref 31), some (.int (zI x1)), some (.int (zI x2)), some (.int (zI x3)), none, none] [.int (zI r65), .ref 31] h63
          refine fx_iconst d_MO_inFax_226 ?_
          obtain ⟨hz66, H⟩ := H
          refine fx_icmp_ne (t := 234) (n := 230) d_MO_inFax_227 hz66 (show zR 1 by decide) (fun z67 => ?_) (fun z67 => ?_)
          · replace H := H.1 z67
            refine fx_iconst d_MO_inFax_234 ?_
            refine fx_callV (M' := M_MO_need) (B' := (0, 0)) (vs := [.int (zI 0)]) (rest := []) (c1 := 0) (s1 := 0) (n := 238) d_MO_inFax_235 ca_MO_inFax_273 (at_31 (h := _) hS63) rfl rfl rfl ⟨by decide, by decide⟩ (Nat.le_of_ble_eq_true rfl) (Or.inl rfl) (fx_Mt.mono H fun v h68 hv => ?_)
            obtain ⟨r70, rfl, e69, H⟩ := hv
            have hS68 := e69.trans hS63
            show fx_V l M_MO_inFax (0, 0) Q 0 0 238 [some (.ref 31), some (.int (zI x1)), some (.int (zI x2)), some (.int (zI x3)), none, none] [.int (zI r70)] h68
            refine fx_pop d_MO_inFax_238 rfl ?_
            refine fx_aload_n (i := 0) d_MO_inFax_239 rfl rfl ?_
            refine fx_callV (M' := M_MO_inRest) (B' := (0, 0)) (vs := []) (rest := []) (c1 := 0) (s1 := 0) (n := 243) d_MO_inFax_240 ca_MO_inFax_295 (at_31 (h := _) hS68) rfl rfl rfl ⟨by decide, by decide⟩ (Nat.le_of_ble_eq_true rfl) (Or.inl rfl) (fx_Mt.mono H fun v h71 hv => ?_)
            obtain ⟨rfl, e72, H⟩ := hv
            have hS71 := e72.trans hS68
            show fx_V l M_MO_inFax (0, 0) Q 0 0 243 [some (.ref 31), some (.int (zI x1)), some (.int (zI x2)), some (.int (zI x3)), none, none] [] h71
            exact fx_end none ⟨rfl, d_MO_inFax_243⟩ (Nat.le_refl _) (Nat.le_refl _) rfl H
          · replace H := H.2 z67
            refine fx_iconst d_MO_inFax_230 ?_
            refine fx_goto (n := 235) d_MO_inFax_231 ?_
            refine fx_callV (M' := M_MO_need) (B' := (0, 0)) (vs := [.int (zI 1)]) (rest := []) (c1 := 0) (s1 := 0) (n := 238) d_MO_inFax_235 ca_MO_inFax_273 (at_31 (h := _) hS63) rfl rfl rfl ⟨by decide, by decide⟩ (Nat.le_of_ble_eq_true rfl) (Or.inl rfl) (fx_Mt.mono H fun v h73 hv => ?_)
            obtain ⟨r75, rfl, e74, H⟩ := hv
            have hS73 := e74.trans hS63
            show fx_V l M_MO_inFax (0, 0) Q 0 0 238 [some (.ref 31), some (.int (zI x1)), some (.int (zI x2)), some (.int (zI x3)), none, none] [.int (zI r75)] h73
            refine fx_pop d_MO_inFax_238 rfl ?_
            refine fx_aload_n (i := 0) d_MO_inFax_239 rfl rfl ?_
            refine fx_callV (M' := M_MO_inRest) (B' := (0, 0)) (vs := []) (rest := []) (c1 := 0) (s1 := 0) (n := 243) d_MO_inFax_240 ca_MO_inFax_295 (at_31 (h := _) hS73) rfl rfl rfl ⟨by decide, by decide⟩ (Nat.le_of_ble_eq_true rfl) (Or.inl rfl) (fx_Mt.mono H fun v h76 hv => ?_)
            obtain ⟨rfl, e77, H⟩ := hv
            have hS76 := e77.trans hS73
            show fx_V l M_MO_inFax (0, 0) Q 0 0 243 [some (.ref 31), some (.int (zI x1)), some (.int (zI x2)), some (.int (zI x3)), none, none] [] h76
            exact fx_end none ⟨rfl, d_MO_inFax_243⟩ (Nat.le_refl _) (Nat.le_refl _) rfl H
        · replace H := H.2 z59
          refine fx_iconst d_MO_inFax_210 ?_
          refine fx_goto (n := 215) d_MO_inFax_211 ?_
          refine fx_callV (M' := M_MO_need) (B' := (0, 0)) (vs := [.int (zI 1)]) (rest := []) (c1 := 0) (s1 := 0) (n := 218) d_MO_inFax_215 ca_MO_inFax_273 (at_31 (h := _) hS55) rfl rfl rfl ⟨by decide, by decide⟩ (Nat.le_of_ble_eq_true rfl) (Or.inl rfl) (fx_Mt.mono H fun v h78 hv => ?_)
          obtain ⟨r80, rfl, e79, H⟩ := hv
          have hS78 := e79.trans hS55
          show fx_V l M_MO_inFax (0, 0) Q 0 0 218 [some (.ref 31), some (.int (zI x1)), some (.int (zI x2)), some (.int (zI x3)), none, none] [.int (zI r80)] h78
          refine fx_pop d_MO_inFax_218 rfl ?_
          refine fx_aload_n (i := 0) d_MO_inFax_219 rfl rfl ?_
          refine fx_aload_n (i := 0) d_MO_inFax_220 rfl rfl ?_
          refine fx_bipush (v := 12) d_MO_inFax_221 rfl ?_
          refine fx_callV (M' := M_MO_inBits) (B' := (0, 0)) (vs := [.int (zI 12)]) (rest := [.ref 31]) (c1 := 0) (s1 := 0) (n := 226) d_MO_inFax_223 ca_MO_inFax_280 (at_31 (h := _) hS78) rfl rfl rfl ⟨by decide, by decide⟩ (Nat.le_of_ble_eq_true rfl) (Or.inl rfl) (fx_Mt.mono H fun v h81 hv => ?_)
          obtain ⟨r83, rfl, e82, H⟩ := hv
          have hS81 := e82.trans hS78
          show fx_V l M_MO_inFax (0, 0) Q 0 0 226 [some (.ref 31), some (.int (zI x1)), some (.int (zI x2)), some (.int (zI x3)), none, none] [.int (zI r83), .ref 31] h81
          refine fx_iconst d_MO_inFax_226 ?_
          obtain ⟨hz84, H⟩ := H
          refine fx_icmp_ne (t := 234) (n := 230) d_MO_inFax_227 hz84 (show zR 1 by decide) (fun z85 => ?_) (fun z85 => ?_)
          · replace H := H.1 z85
            refine fx_iconst d_MO_inFax_234 ?_
            refine fx_callV (M' := M_MO_need) (B' := (0, 0)) (vs := [.int (zI 0)]) (rest := []) (c1 := 0) (s1 := 0) (n := 238) d_MO_inFax_235 ca_MO_inFax_273 (at_31 (h := _) hS81) rfl rfl rfl ⟨by decide, by decide⟩ (Nat.le_of_ble_eq_true rfl) (Or.inl rfl) (fx_Mt.mono H fun v h86 hv => ?_)
            obtain ⟨r88, rfl, e87, H⟩ := hv
            have hS86 := e87.trans hS81
            show fx_V l M_MO_inFax (0, 0) Q 0 0 238 [some (.ref 31), some (.int (zI x1)), some (.int (zI x2)), some (.int (zI x3)), none, none] [.int (zI r88)] h86
            refine fx_pop d_MO_inFax_238 rfl ?_
            refine fx_aload_n (i := 0) d_MO_inFax_239 rfl rfl ?_
            refine fx_callV (M' := M_MO_inRest) (B' := (0, 0)) (vs := []) (rest := []) (c1 := 0) (s1 := 0) (n := 243) d_MO_inFax_240 ca_MO_inFax_295 (at_31 (h := _) hS86) rfl rfl rfl ⟨by decide, by decide⟩ (Nat.le_of_ble_eq_true rfl) (Or.inl rfl) (fx_Mt.mono H fun v h89 hv => ?_)
            obtain ⟨rfl, e90, H⟩ := hv
            have hS89 := e90.trans hS86
            show fx_V l M_MO_inFax (0, 0) Q 0 0 243 [some (.ref 31), some (.int (zI x1)), some (.int (zI x2)), some (.int (zI x3)), none, none] [] h89
            exact fx_end none ⟨rfl, d_MO_inFax_243⟩ (Nat.le_refl _) (Nat.le_refl _) rfl H
          · replace H := H.2 z85
            refine fx_iconst d_MO_inFax_230 ?_
            refine fx_goto (n := 235) d_MO_inFax_231 ?_
            refine fx_callV (M' := M_MO_need) (B' := (0, 0)) (vs := [.int (zI 1)]) (rest := []) (c1 := 0) (s1 := 0) (n := 238) d_MO_inFax_235 ca_MO_inFax_273 (at_31 (h := _) hS81) rfl rfl rfl ⟨by decide, by decide⟩ (Nat.le_of_ble_eq_true rfl) (Or.inl rfl) (fx_Mt.mono H fun v h91 hv => ?_)
            obtain ⟨r93, rfl, e92, H⟩ := hv
            have hS91 := e92.trans hS81
            show fx_V l M_MO_inFax (0, 0) Q 0 0 238 [some (.ref 31), some (.int (zI x1)), some (.int (zI x2)), some (.int (zI x3)), none, none] [.int (zI r93)] h91
            refine fx_pop d_MO_inFax_238 rfl ?_
            refine fx_aload_n (i := 0) d_MO_inFax_239 rfl rfl ?_
            refine fx_callV (M' := M_MO_inRest) (B' := (0, 0)) (vs := []) (rest := []) (c1 := 0) (s1 := 0) (n := 243) d_MO_inFax_240 ca_MO_inFax_295 (at_31 (h := _) hS91) rfl rfl rfl ⟨by decide, by decide⟩ (Nat.le_of_ble_eq_true rfl) (Or.inl rfl) (fx_Mt.mono H fun v h94 hv => ?_)
            obtain ⟨rfl, e95, H⟩ := hv
            have hS94 := e95.trans hS91
            show fx_V l M_MO_inFax (0, 0) Q 0 0 243 [some (.ref 31), some (.int (zI x1)), some (.int (zI x2)), some (.int (zI x3)), none, none] [] h94
            exact fx_end none ⟨rfl, d_MO_inFax_243⟩ (Nat.le_refl _) (Nat.le_refl _) rfl H
    · replace H := H.2 z50
      refine fx_iconst d_MO_inFax_16 ?_
      refine fx_istore (ls2 := [some (.ref 31), some (.int (zI x1)), some (.int (zI x2)), some (.int (zI x3)), some (.int (zI 0)), none]) d_MO_inFax_17 (by decide) rfl ?_
      exact H

set_option maxRecDepth 100000 in
set_option maxHeartbeats 4000000 in
theorem w_MO_inFax_19 {l : Launch} {Q : Option Value → fx_H → Prop} {h : fx_H}  {x1 : Int} {x2 : Int} {x3 : Int} {x4 : Int}  {a : Nat → Nat} {pp dd : Nat} (hS : h.1 = fx_S0 a pp dd) 
    (H : zR x4 ∧ zR (h.2.1 31 15) ∧ (((h.2.1 31 15) ≤ x4 → zR (h.2.1 31 12) ∧ ((¬ (h.2.1 31 12) = 3 → zR (h.2.1 31 22) ∧ ((¬ (h.2.1 31 22) = 0 → (fx_V l M_MO_inFax (0, 0) Q 0 0 149 [some (.ref 31), some (.int (zI x1)), some (.int (zI x2)), some (.int (zI x3)), none, some (.int (zI 0))] [] h)) ∧ ((h.2.1 31 22) = 0 → fx_Mt l M_MO_inBy (0, 0) [.ref 31] h (fun v h8 => v = none ∧ h8.1 = h.1 ∧ (fx_V l M_MO_inFax (0, 0) Q 0 0 149 [some (.ref 31), some (.int (zI x1)), some (.int (zI x2)), some (.int (zI x3)), none, some (.int (zI 0))] [] h8))))) ∧ ((h.2.1 31 12) = 3 → fx_Mt l M_MO_inBits (0, 0) [.ref 31, .int (zI 12)] h (fun v h10 => ∃ r12 : Int, v = some (.int (zI r12)) ∧ h10.1 = h.1 ∧ zR r12 ∧ ((¬ r12 = 1 → fx_Mt l M_MO_need (0, 0) [.ref 31, .int (zI 0)] h10 (fun v h15 => ∃ r17 : Int, v = some (.int (zI r17)) ∧ h15.1 = h10.1 ∧ fx_Mt l M_MO_inBit (0, 0) [.ref 31] h15 (fun v h18 => ∃ r20 : Int, v = some (.int (zI r20)) ∧ h18.1 = h15.1 ∧ zR r20 ∧ ((¬ r20 = 1 → zR x3 ∧ zR x1 ∧ ((x3 ≤ x1 → fx_Mt l M_MO_need (0, 0) [.ref 31, .int (zI 0)] h18 (fun v h26 => ∃ r28 : Int, v = some (.int (zI r28)) ∧ h26.1 = h18.1 ∧ zR (h26.2.1 31 22) ∧ ((¬ (h26.2.1 31 22) = 0 → (fx_V l M_MO_inFax (0, 0) Q 0 0 149 [some (.ref 31), some (.int (zI x1)), some (.int (zI x2)), some (.int (zI x3)), none, some (.int (zI 0))] [] h26)) ∧ ((h26.2.1 31 22) = 0 → fx_Mt l M_MO_inBy (0, 0) [.ref 31] h26 (fun v h31 => v = none ∧ h31.1 = h26.1 ∧ (fx_V l M_MO_inFax (0, 0) Q 0 0 149 [some (.ref 31), some (.int (zI x1)), some (.int (zI x2)), some (.int (zI x3)), none, some (.int (zI 0))] [] h31)))))) ∧ (¬ (x3 ≤ x1) → fx_Mt l M_MO_need (0, 0) [.ref 31, .int (zI 1)] h18 (fun v h33 => ∃ r35 : Int, v = some (.int (zI r35)) ∧ h33.1 = h18.1 ∧ zR (h33.2.1 31 22) ∧ ((¬ (h33.2.1 31 22) = 0 → (fx_V l M_MO_inFax (0, 0) Q 0 0 149 [some (.ref 31), some (.int (zI x1)), some (.int (zI x2)), some (.int (zI x3)), none, some (.int (zI 0))] [] h33)) ∧ ((h33.2.1 31 22) = 0 → fx_Mt l M_MO_inBy (0, 0) [.ref 31] h33 (fun v h38 => v = none ∧ h38.1 = h33.1 ∧ (fx_V l M_MO_inFax (0, 0) Q 0 0 149 [some (.ref 31), some (.int (zI x1)), some (.int (zI x2)), some (.int (zI x3)), none, some (.int (zI 0))] [] h38)))))))) ∧ (r20 = 1 → fx_Mt l M_MO_need (0, 0) [.ref 31, .int (zI 1)] h18 (fun v h40 => ∃ r42 : Int, v = some (.int (zI r42)) ∧ h40.1 = h18.1 ∧ fx_Mt l M_MO_inItself (0, 0) [.ref 31] h40 (fun v h43 => v = none ∧ h43.1 = h40.1 ∧ (fx_V l M_MO_inFax (0, 0) Q 0 0 149 [some (.ref 31), some (.int (zI x1)), some (.int (zI x2)), some (.int (zI x3)), none, some (.int (zI 0))] [] h43)))))))) ∧ (r12 = 1 → fx_Mt l M_MO_need (0, 0) [.ref 31, .int (zI 1)] h10 (fun v h45 => ∃ r47 : Int, v = some (.int (zI r47)) ∧ h45.1 = h10.1 ∧ fx_Mt l M_MO_inBit (0, 0) [.ref 31] h45 (fun v h48 => ∃ r50 : Int, v = some (.int (zI r50)) ∧ h48.1 = h45.1 ∧ zR r50 ∧ ((¬ r50 = 1 → zR x3 ∧ zR x1 ∧ ((x3 ≤ x1 → fx_Mt l M_MO_need (0, 0) [.ref 31, .int (zI 0)] h48 (fun v h56 => ∃ r58 : Int, v = some (.int (zI r58)) ∧ h56.1 = h48.1 ∧ zR (h56.2.1 31 22) ∧ ((¬ (h56.2.1 31 22) = 0 → (fx_V l M_MO_inFax (0, 0) Q 0 0 149 [some (.ref 31), some (.int (zI x1)), some (.int (zI x2)), some (.int (zI x3)), none, some (.int (zI 0))] [] h56)) ∧ ((h56.2.1 31 22) = 0 → fx_Mt l M_MO_inBy (0, 0) [.ref 31] h56 (fun v h61 => v = none ∧ h61.1 = h56.1 ∧ (fx_V l M_MO_inFax (0, 0) Q 0 0 149 [some (.ref 31), some (.int (zI x1)), some (.int (zI x2)), some (.int (zI x3)), none, some (.int (zI 0))] [] h61)))))) ∧ (¬ (x3 ≤ x1) → fx_Mt l M_MO_need (0, 0) [.ref 31, .int (zI 1)] h48 (fun v h63 => ∃ r65 : Int, v = some (.int (zI r65)) ∧ h63.1 = h48.1 ∧ zR (h63.2.1 31 22) ∧ ((¬ (h63.2.1 31 22) = 0 → (fx_V l M_MO_inFax (0, 0) Q 0 0 149 [some (.ref 31), some (.int (zI x1)), some (.int (zI x2)), some (.int (zI x3)), none, some (.int (zI 0))] [] h63)) ∧ ((h63.2.1 31 22) = 0 → fx_Mt l M_MO_inBy (0, 0) [.ref 31] h63 (fun v h68 => v = none ∧ h68.1 = h63.1 ∧ (fx_V l M_MO_inFax (0, 0) Q 0 0 149 [some (.ref 31), some (.int (zI x1)), some (.int (zI x2)), some (.int (zI x3)), none, some (.int (zI 0))] [] h68)))))))) ∧ (r50 = 1 → fx_Mt l M_MO_need (0, 0) [.ref 31, .int (zI 1)] h48 (fun v h70 => ∃ r72 : Int, v = some (.int (zI r72)) ∧ h70.1 = h48.1 ∧ fx_Mt l M_MO_inItself (0, 0) [.ref 31] h70 (fun v h73 => v = none ∧ h73.1 = h70.1 ∧ (fx_V l M_MO_inFax (0, 0) Q 0 0 149 [some (.ref 31), some (.int (zI x1)), some (.int (zI x2)), some (.int (zI x3)), none, some (.int (zI 0))] [] h73))))))))))))) ∧ (¬ ((h.2.1 31 15) ≤ x4) → zR x3 ∧ zR x1 ∧ ((¬ x3 = x1 → 0 ≤ x4 ∧ x4 < 40 ∧ 0 ≤ x4 ∧ x4 < 40 ∧ (fx_V l M_MO_inFax (0, 0) Q 0 0 19 [some (.ref 31), some (.int (zI x1)), some (.int (zI x2)), some (.int (zI x3)), some (.int (zI (x4 + 1))), none] [] (fx_uA h 37 (x4.toNat) (h.2.2.1 36 (x4.toNat))))) ∧ (x3 = x1 → 0 ≤ x4 ∧ x4 < 40 ∧ (fx_V l M_MO_inFax (0, 0) Q 0 0 19 [some (.ref 31), some (.int (zI x1)), some (.int (zI x2)), some (.int (zI x3)), some (.int (zI (x4 + 1))), none] [] (fx_uA h 37 (x4.toNat) 0))))))) :
    fx_V l M_MO_inFax (0, 0) Q 0 0 19 [some (.ref 31), some (.int (zI x1)), some (.int (zI x2)), some (.int (zI x3)), some (.int (zI x4)), none] [] h := by
  refine fx_iload d_MO_inFax_19 rfl ?_
  refine fx_aload_n (i := 0) d_MO_inFax_21 rfl rfl ?_
  refine fx_getI d_MO_inFax_22 lk_MO_131 (at_31 (h := _) hS) rfl ?_
  obtain ⟨hz1, H⟩ := H
  obtain ⟨hz2, H⟩ := H
  refine fx_icmp_ge (t := 57) (n := 28) d_MO_inFax_25 hz1 hz2 (fun z3 => ?_) (fun z3 => ?_)
  · replace H := H.1 z3
    refine fx_iconst d_MO_inFax_57 ?_
    refine fx_istore (ls2 := [some (.ref 31), some (.int (zI x1)), some (.int (zI x2)), some (.int (zI x3)), some (.int (zI 0)), none]) d_MO_inFax_58 (by decide) rfl ?_
    refine fx_aload_n (i := 0) d_MO_inFax_60 rfl rfl ?_
    refine fx_getI d_MO_inFax_61 lk_MO_180 (at_31 (h := _) hS) rfl ?_
    refine fx_iconst d_MO_inFax_64 ?_
    obtain ⟨hz4, H⟩ := H
    refine fx_icmp_ne (t := 123) (n := 68) d_MO_inFax_65 hz4 (show zR 3 by decide) (fun z5 => ?_) (fun z5 => ?_)
    · replace H := H.1 z5
      refine fx_iload d_MO_inFax_123 rfl ?_
      refine fx_if_eq (t := 135) (n := 128) d_MO_inFax_125 (show zR 0 by decide) (fun z => ?_) (fun z => absurd (show ¬ ((0 : Int) = (0 : Int)) from z) (by decide))
      refine fx_aload_n (i := 0) d_MO_inFax_135 rfl rfl ?_
      refine fx_getI d_MO_inFax_136 lk_MO_264 (at_31 (h := _) hS) rfl ?_
      obtain ⟨hz6, H⟩ := H
      refine fx_if_ne (t := 146) (n := 142) d_MO_inFax_139 hz6 (fun z7 => ?_) (fun z7 => ?_)
      · replace H := H.1 z7
        refine fx_iconst d_MO_inFax_146 ?_
        refine fx_istore (ls2 := [some (.ref 31), some (.int (zI x1)), some (.int (zI x2)), some (.int (zI x3)), some (.int (zI 0)), some (.int (zI 0))]) d_MO_inFax_147 (by decide) rfl ?_
        exact fx_fewer [some (.ref 31), some (.int (zI x1)), some (.int (zI x2)), some (.int (zI x3)), none, some (.int (zI 0))] ⟨rfl, rfl, rfl, rfl, rfl, trivial⟩ H
      · replace H := H.2 z7
        refine fx_aload_n (i := 0) d_MO_inFax_142 rfl rfl ?_
        refine fx_callV (M' := M_MO_inBy) (B' := (0, 0)) (vs := []) (rest := []) (c1 := 0) (s1 := 0) (n := 146) d_MO_inFax_143 ca_MO_inFax_310 (at_31 (h := _) hS) rfl rfl rfl ⟨by decide, by decide⟩ (Nat.le_of_ble_eq_true rfl) (Or.inl rfl) (fx_Mt.mono H fun v h8 hv => ?_)
        obtain ⟨rfl, e9, H⟩ := hv
        have hS8 := e9.trans hS
        show fx_V l M_MO_inFax (0, 0) Q 0 0 146 [some (.ref 31), some (.int (zI x1)), some (.int (zI x2)), some (.int (zI x3)), some (.int (zI 0)), none] [] h8
        refine fx_iconst d_MO_inFax_146 ?_
        refine fx_istore (ls2 := [some (.ref 31), some (.int (zI x1)), some (.int (zI x2)), some (.int (zI x3)), some (.int (zI 0)), some (.int (zI 0))]) d_MO_inFax_147 (by decide) rfl ?_
        exact fx_fewer [some (.ref 31), some (.int (zI x1)), some (.int (zI x2)), some (.int (zI x3)), none, some (.int (zI 0))] ⟨rfl, rfl, rfl, rfl, rfl, trivial⟩ H
    · replace H := H.2 z5
      refine fx_aload_n (i := 0) d_MO_inFax_68 rfl rfl ?_
      refine fx_aload_n (i := 0) d_MO_inFax_69 rfl rfl ?_
      refine fx_bipush (v := 12) d_MO_inFax_70 rfl ?_
      refine fx_callV (M' := M_MO_inBits) (B' := (0, 0)) (vs := [.int (zI 12)]) (rest := [.ref 31]) (c1 := 0) (s1 := 0) (n := 75) d_MO_inFax_72 ca_MO_inFax_280 (at_31 (h := _) hS) rfl rfl rfl ⟨by decide, by decide⟩ (Nat.le_of_ble_eq_true rfl) (Or.inl rfl) (fx_Mt.mono H fun v h10 hv => ?_)
      obtain ⟨r12, rfl, e11, H⟩ := hv
      have hS10 := e11.trans hS
      show fx_V l M_MO_inFax (0, 0) Q 0 0 75 [some (.ref 31), some (.int (zI x1)), some (.int (zI x2)), some (.int (zI x3)), some (.int (zI 0)), none] [.int (zI r12), .ref 31] h10
      refine fx_iconst d_MO_inFax_75 ?_
      obtain ⟨hz13, H⟩ := H
      refine fx_icmp_ne (t := 83) (n := 79) d_MO_inFax_76 hz13 (show zR 1 by decide) (fun z14 => ?_) (fun z14 => ?_)
      · replace H := H.1 z14
        refine fx_iconst d_MO_inFax_83 ?_
        refine fx_callV (M' := M_MO_need) (B' := (0, 0)) (vs := [.int (zI 0)]) (rest := []) (c1 := 0) (s1 := 0) (n := 87) d_MO_inFax_84 ca_MO_inFax_273 (at_31 (h := _) hS10) rfl rfl rfl ⟨by decide, by decide⟩ (Nat.le_of_ble_eq_true rfl) (Or.inl rfl) (fx_Mt.mono H fun v h15 hv => ?_)
        obtain ⟨r17, rfl, e16, H⟩ := hv
        have hS15 := e16.trans hS10
        show fx_V l M_MO_inFax (0, 0) Q 0 0 87 [some (.ref 31), some (.int (zI x1)), some (.int (zI x2)), some (.int (zI x3)), some (.int (zI 0)), none] [.int (zI r17)] h15
        refine fx_pop d_MO_inFax_87 rfl ?_
        refine fx_aload_n (i := 0) d_MO_inFax_88 rfl rfl ?_
        refine fx_callV (M' := M_MO_inBit) (B' := (0, 0)) (vs := []) (rest := []) (c1 := 0) (s1 := 0) (n := 92) d_MO_inFax_89 ca_MO_inFax_277 (at_31 (h := _) hS15) rfl rfl rfl ⟨by decide, by decide⟩ (Nat.le_of_ble_eq_true rfl) (Or.inl rfl) (fx_Mt.mono H fun v h18 hv => ?_)
        obtain ⟨r20, rfl, e19, H⟩ := hv
        have hS18 := e19.trans hS15
        show fx_V l M_MO_inFax (0, 0) Q 0 0 92 [some (.ref 31), some (.int (zI x1)), some (.int (zI x2)), some (.int (zI x3)), some (.int (zI 0)), none] [.int (zI r20)] h18
        refine fx_iconst d_MO_inFax_92 ?_
        obtain ⟨hz21, H⟩ := H
        refine fx_icmp_ne (t := 100) (n := 96) d_MO_inFax_93 hz21 (show zR 1 by decide) (fun z22 => ?_) (fun z22 => ?_)
        · replace H := H.1 z22
          refine fx_iconst d_MO_inFax_100 ?_
          refine fx_istore (ls2 := [some (.ref 31), some (.int (zI x1)), some (.int (zI x2)), some (.int (zI x3)), some (.int (zI 0)), none]) d_MO_inFax_101 (by decide) rfl ?_
          refine fx_aload_n (i := 0) d_MO_inFax_103 rfl rfl ?_
          refine fx_iload d_MO_inFax_104 rfl ?_
          refine fx_if_ne (t := 114) (n := 109) d_MO_inFax_106 (show zR 0 by decide) (fun z => absurd (show ¬ (0 : Int) = (0 : Int) from z) (by decide)) (fun z => ?_)
          refine fx_iload_n (i := 3) d_MO_inFax_109 rfl rfl ?_
          refine fx_iload_n (i := 1) d_MO_inFax_110 rfl rfl ?_
          obtain ⟨hz23, H⟩ := H
          obtain ⟨hz24, H⟩ := H
          refine fx_icmp_le (t := 118) (n := 114) d_MO_inFax_111 hz23 hz24 (fun z25 => ?_) (fun z25 => ?_)
          · replace H := H.1 z25
            refine fx_iconst d_MO_inFax_118 ?_
            refine fx_callV (M' := M_MO_need) (B' := (0, 0)) (vs := [.int (zI 0)]) (rest := []) (c1 := 0) (s1 := 0) (n := 122) d_MO_inFax_119 ca_MO_inFax_273 (at_31 (h := _) hS18) rfl rfl rfl ⟨by decide, by decide⟩ (Nat.le_of_ble_eq_true rfl) (Or.inl rfl) (fx_Mt.mono H fun v h26 hv => ?_)
            obtain ⟨r28, rfl, e27, H⟩ := hv
            have hS26 := e27.trans hS18
            show fx_V l M_MO_inFax (0, 0) Q 0 0 122 [some (.ref 31), some (.int (zI x1)), some (.int (zI x2)), some (.int (zI x3)), some (.int (zI 0)), none] [.int (zI r28)] h26
            refine fx_pop d_MO_inFax_122 rfl ?_
            refine fx_iload d_MO_inFax_123 rfl ?_
            refine fx_if_eq (t := 135) (n := 128) d_MO_inFax_125 (show zR 0 by decide) (fun z => ?_) (fun z => absurd (show ¬ ((0 : Int) = (0 : Int)) from z) (by decide))
            refine fx_aload_n (i := 0) d_MO_inFax_135 rfl rfl ?_
            refine fx_getI d_MO_inFax_136 lk_MO_264 (at_31 (h := _) hS26) rfl ?_
            obtain ⟨hz29, H⟩ := H
            refine fx_if_ne (t := 146) (n := 142) d_MO_inFax_139 hz29 (fun z30 => ?_) (fun z30 => ?_)
            · replace H := H.1 z30
              refine fx_iconst d_MO_inFax_146 ?_
              refine fx_istore (ls2 := [some (.ref 31), some (.int (zI x1)), some (.int (zI x2)), some (.int (zI x3)), some (.int (zI 0)), some (.int (zI 0))]) d_MO_inFax_147 (by decide) rfl ?_
              exact fx_fewer [some (.ref 31), some (.int (zI x1)), some (.int (zI x2)), some (.int (zI x3)), none, some (.int (zI 0))] ⟨rfl, rfl, rfl, rfl, rfl, trivial⟩ H
            · replace H := H.2 z30
              refine fx_aload_n (i := 0) d_MO_inFax_142 rfl rfl ?_
              refine fx_callV (M' := M_MO_inBy) (B' := (0, 0)) (vs := []) (rest := []) (c1 := 0) (s1 := 0) (n := 146) d_MO_inFax_143 ca_MO_inFax_310 (at_31 (h := _) hS26) rfl rfl rfl ⟨by decide, by decide⟩ (Nat.le_of_ble_eq_true rfl) (Or.inl rfl) (fx_Mt.mono H fun v h31 hv => ?_)
              obtain ⟨rfl, e32, H⟩ := hv
              have hS31 := e32.trans hS26
              show fx_V l M_MO_inFax (0, 0) Q 0 0 146 [some (.ref 31), some (.int (zI x1)), some (.int (zI x2)), some (.int (zI x3)), some (.int (zI 0)), none] [] h31
              refine fx_iconst d_MO_inFax_146 ?_
              refine fx_istore (ls2 := [some (.ref 31), some (.int (zI x1)), some (.int (zI x2)), some (.int (zI x3)), some (.int (zI 0)), some (.int (zI 0))]) d_MO_inFax_147 (by decide) rfl ?_
              exact fx_fewer [some (.ref 31), some (.int (zI x1)), some (.int (zI x2)), some (.int (zI x3)), none, some (.int (zI 0))] ⟨rfl, rfl, rfl, rfl, rfl, trivial⟩ H
          · replace H := H.2 z25
            refine fx_iconst d_MO_inFax_114 ?_
            refine fx_goto (n := 119) d_MO_inFax_115 ?_
            refine fx_callV (M' := M_MO_need) (B' := (0, 0)) (vs := [.int (zI 1)]) (rest := []) (c1 := 0) (s1 := 0) (n := 122) d_MO_inFax_119 ca_MO_inFax_273 (at_31 (h := _) hS18) rfl rfl rfl ⟨by decide, by decide⟩ (Nat.le_of_ble_eq_true rfl) (Or.inl rfl) (fx_Mt.mono H fun v h33 hv => ?_)
            obtain ⟨r35, rfl, e34, H⟩ := hv
            have hS33 := e34.trans hS18
            show fx_V l M_MO_inFax (0, 0) Q 0 0 122 [some (.ref 31), some (.int (zI x1)), some (.int (zI x2)), some (.int (zI x3)), some (.int (zI 0)), none] [.int (zI r35)] h33
            refine fx_pop d_MO_inFax_122 rfl ?_
            refine fx_iload d_MO_inFax_123 rfl ?_
            refine fx_if_eq (t := 135) (n := 128) d_MO_inFax_125 (show zR 0 by decide) (fun z => ?_) (fun z => absurd (show ¬ ((0 : Int) = (0 : Int)) from z) (by decide))
            refine fx_aload_n (i := 0) d_MO_inFax_135 rfl rfl ?_
            refine fx_getI d_MO_inFax_136 lk_MO_264 (at_31 (h := _) hS33) rfl ?_
            obtain ⟨hz36, H⟩ := H
            refine fx_if_ne (t := 146) (n := 142) d_MO_inFax_139 hz36 (fun z37 => ?_) (fun z37 => ?_)
            · replace H := H.1 z37
              refine fx_iconst d_MO_inFax_146 ?_
              refine fx_istore (ls2 := [some (.ref 31), some (.int (zI x1)), some (.int (zI x2)), some (.int (zI x3)), some (.int (zI 0)), some (.int (zI 0))]) d_MO_inFax_147 (by decide) rfl ?_
              exact fx_fewer [some (.ref 31), some (.int (zI x1)), some (.int (zI x2)), some (.int (zI x3)), none, some (.int (zI 0))] ⟨rfl, rfl, rfl, rfl, rfl, trivial⟩ H
            · replace H := H.2 z37
              refine fx_aload_n (i := 0) d_MO_inFax_142 rfl rfl ?_
              refine fx_callV (M' := M_MO_inBy) (B' := (0, 0)) (vs := []) (rest := []) (c1 := 0) (s1 := 0) (n := 146) d_MO_inFax_143 ca_MO_inFax_310 (at_31 (h := _) hS33) rfl rfl rfl ⟨by decide, by decide⟩ (Nat.le_of_ble_eq_true rfl) (Or.inl rfl) (fx_Mt.mono H fun v h38 hv => ?_)
              obtain ⟨rfl, e39, H⟩ := hv
              have hS38 := e39.trans hS33
              show fx_V l M_MO_inFax (0, 0) Q 0 0 146 [some (.ref 31), some (.int (zI x1)), some (.int (zI x2)), some (.int (zI x3)), some (.int (zI 0)), none] [] h38
              refine fx_iconst d_MO_inFax_146 ?_
              refine fx_istore (ls2 := [some (.ref 31), some (.int (zI x1)), some (.int (zI x2)), some (.int (zI x3)), some (.int (zI 0)), some (.int (zI 0))]) d_MO_inFax_147 (by decide) rfl ?_
              exact fx_fewer [some (.ref 31), some (.int (zI x1)), some (.int (zI x2)), some (.int (zI x3)), none, some (.int (zI 0))] ⟨rfl, rfl, rfl, rfl, rfl, trivial⟩ H
        · replace H := H.2 z22
          refine fx_iconst d_MO_inFax_96 ?_
          refine fx_goto (n := 101) d_MO_inFax_97 ?_
          refine fx_istore (ls2 := [some (.ref 31), some (.int (zI x1)), some (.int (zI x2)), some (.int (zI x3)), some (.int (zI 1)), none]) d_MO_inFax_101 (by decide) rfl ?_
          refine fx_aload_n (i := 0) d_MO_inFax_103 rfl rfl ?_
          refine fx_iload d_MO_inFax_104 rfl ?_
          refine fx_if_ne (t := 114) (n := 109) d_MO_inFax_106 (show zR 1 by decide) (fun z => ?_) (fun z => absurd (show (1 : Int) = (0 : Int) from z) (by decide))
          refine fx_iconst d_MO_inFax_114 ?_
          refine fx_goto (n := 119) d_MO_inFax_115 ?_
          refine fx_callV (M' := M_MO_need) (B' := (0, 0)) (vs := [.int (zI 1)]) (rest := []) (c1 := 0) (s1 := 0) (n := 122) d_MO_inFax_119 ca_MO_inFax_273 (at_31 (h := _) hS18) rfl rfl rfl ⟨by decide, by decide⟩ (Nat.le_of_ble_eq_true rfl) (Or.inl rfl) (fx_Mt.mono H fun v h40 hv => ?_)
          obtain ⟨r42, rfl, e41, H⟩ := hv
          have hS40 := e41.trans hS18
          show fx_V l M_MO_inFax (0, 0) Q 0 0 122 [some (.ref 31), some (.int (zI x1)), some (.int (zI x2)), some (.int (zI x3)), some (.int (zI 1)), none] [.int (zI r42)] h40
          refine fx_pop d_MO_inFax_122 rfl ?_
          refine fx_iload d_MO_inFax_123 rfl ?_
          refine fx_if_eq (t := 135) (n := 128) d_MO_inFax_125 (show zR 1 by decide) (fun z => absurd (show (1 : Int) = (0 : Int) from z) (by decide)) (fun z => ?_)
          refine fx_aload_n (i := 0) d_MO_inFax_128 rfl rfl ?_
          refine fx_callV (M' := M_MO_inItself) (B' := (0, 0)) (vs := []) (rest := []) (c1 := 0) (s1 := 0) (n := 132) d_MO_inFax_129 ca_MO_inFax_307 (at_31 (h := _) hS40) rfl rfl rfl ⟨by decide, by decide⟩ (Nat.le_of_ble_eq_true rfl) (Or.inl rfl) (fx_Mt.mono H fun v h43 hv => ?_)
          obtain ⟨rfl, e44, H⟩ := hv
          have hS43 := e44.trans hS40
          show fx_V l M_MO_inFax (0, 0) Q 0 0 132 [some (.ref 31), some (.int (zI x1)), some (.int (zI x2)), some (.int (zI x3)), some (.int (zI 1)), none] [] h43
          refine fx_goto (n := 146) d_MO_inFax_132 ?_
          refine fx_iconst d_MO_inFax_146 ?_
          refine fx_istore (ls2 := [some (.ref 31), some (.int (zI x1)), some (.int (zI x2)), some (.int (zI x3)), some (.int (zI 1)), some (.int (zI 0))]) d_MO_inFax_147 (by decide) rfl ?_
          exact fx_fewer [some (.ref 31), some (.int (zI x1)), some (.int (zI x2)), some (.int (zI x3)), none, some (.int (zI 0))] ⟨rfl, rfl, rfl, rfl, rfl, trivial⟩ H
      · replace H := H.2 z14
        refine fx_iconst d_MO_inFax_79 ?_
        refine fx_goto (n := 84) d_MO_inFax_80 ?_
        refine fx_callV (M' := M_MO_need) (B' := (0, 0)) (vs := [.int (zI 1)]) (rest := []) (c1 := 0) (s1 := 0) (n := 87) d_MO_inFax_84 ca_MO_inFax_273 (at_31 (h := _) hS10) rfl rfl rfl ⟨by decide, by decide⟩ (Nat.le_of_ble_eq_true rfl) (Or.inl rfl) (fx_Mt.mono H fun v h45 hv => ?_)
        obtain ⟨r47, rfl, e46, H⟩ := hv
        have hS45 := e46.trans hS10
        show fx_V l M_MO_inFax (0, 0) Q 0 0 87 [some (.ref 31), some (.int (zI x1)), some (.int (zI x2)), some (.int (zI x3)), some (.int (zI 0)), none] [.int (zI r47)] h45
        refine fx_pop d_MO_inFax_87 rfl ?_
        refine fx_aload_n (i := 0) d_MO_inFax_88 rfl rfl ?_
        refine fx_callV (M' := M_MO_inBit) (B' := (0, 0)) (vs := []) (rest := []) (c1 := 0) (s1 := 0) (n := 92) d_MO_inFax_89 ca_MO_inFax_277 (at_31 (h := _) hS45) rfl rfl rfl ⟨by decide, by decide⟩ (Nat.le_of_ble_eq_true rfl) (Or.inl rfl) (fx_Mt.mono H fun v h48 hv => ?_)
        obtain ⟨r50, rfl, e49, H⟩ := hv
        have hS48 := e49.trans hS45
        show fx_V l M_MO_inFax (0, 0) Q 0 0 92 [some (.ref 31), some (.int (zI x1)), some (.int (zI x2)), some (.int (zI x3)), some (.int (zI 0)), none] [.int (zI r50)] h48
        refine fx_iconst d_MO_inFax_92 ?_
        obtain ⟨hz51, H⟩ := H
        refine fx_icmp_ne (t := 100) (n := 96) d_MO_inFax_93 hz51 (show zR 1 by decide) (fun z52 => ?_) (fun z52 => ?_)
        · replace H := H.1 z52
          refine fx_iconst d_MO_inFax_100 ?_
          refine fx_istore (ls2 := [some (.ref 31), some (.int (zI x1)), some (.int (zI x2)), some (.int (zI x3)), some (.int (zI 0)), none]) d_MO_inFax_101 (by decide) rfl ?_
          refine fx_aload_n (i := 0) d_MO_inFax_103 rfl rfl ?_
          refine fx_iload d_MO_inFax_104 rfl ?_
          refine fx_if_ne (t := 114) (n := 109) d_MO_inFax_106 (show zR 0 by decide) (fun z => absurd (show ¬ (0 : Int) = (0 : Int) from z) (by decide)) (fun z => ?_)
          refine fx_iload_n (i := 3) d_MO_inFax_109 rfl rfl ?_
          refine fx_iload_n (i := 1) d_MO_inFax_110 rfl rfl ?_
          obtain ⟨hz53, H⟩ := H
          obtain ⟨hz54, H⟩ := H
          refine fx_icmp_le (t := 118) (n := 114) d_MO_inFax_111 hz53 hz54 (fun z55 => ?_) (fun z55 => ?_)
          · replace H := H.1 z55
            refine fx_iconst d_MO_inFax_118 ?_
            refine fx_callV (M' := M_MO_need) (B' := (0, 0)) (vs := [.int (zI 0)]) (rest := []) (c1 := 0) (s1 := 0) (n := 122) d_MO_inFax_119 ca_MO_inFax_273 (at_31 (h := _) hS48) rfl rfl rfl ⟨by decide, by decide⟩ (Nat.le_of_ble_eq_true rfl) (Or.inl rfl) (fx_Mt.mono H fun v h56 hv => ?_)
            obtain ⟨r58, rfl, e57, H⟩ := hv
            have hS56 := e57.trans hS48
            show fx_V l M_MO_inFax (0, 0) Q 0 0 122 [some (.ref 31), some (.int (zI x1)), some (.int (zI x2)), some (.int (zI x3)), some (.int (zI 0)), none] [.int (zI r58)] h56
            refine fx_pop d_MO_inFax_122 rfl ?_
            refine fx_iload d_MO_inFax_123 rfl ?_
            refine fx_if_eq (t := 135) (n := 128) d_MO_inFax_125 (show zR 0 by decide) (fun z => ?_) (fun z => absurd (show ¬ ((0 : Int) = (0 : Int)) from z) (by decide))
            refine fx_aload_n (i := 0) d_MO_inFax_135 rfl rfl ?_
            refine fx_getI d_MO_inFax_136 lk_MO_264 (at_31 (h := _) hS56) rfl ?_
            obtain ⟨hz59, H⟩ := H
            refine fx_if_ne (t := 146) (n := 142) d_MO_inFax_139 hz59 (fun z60 => ?_) (fun z60 => ?_)
            · replace H := H.1 z60
              refine fx_iconst d_MO_inFax_146 ?_
              refine fx_istore (ls2 := [some (.ref 31), some (.int (zI x1)), some (.int (zI x2)), some (.int (zI x3)), some (.int (zI 0)), some (.int (zI 0))]) d_MO_inFax_147 (by decide) rfl ?_
              exact fx_fewer [some (.ref 31), some (.int (zI x1)), some (.int (zI x2)), some (.int (zI x3)), none, some (.int (zI 0))] ⟨rfl, rfl, rfl, rfl, rfl, trivial⟩ H
            · replace H := H.2 z60
              refine fx_aload_n (i := 0) d_MO_inFax_142 rfl rfl ?_
              refine fx_callV (M' := M_MO_inBy) (B' := (0, 0)) (vs := []) (rest := []) (c1 := 0) (s1 := 0) (n := 146) d_MO_inFax_143 ca_MO_inFax_310 (at_31 (h := _) hS56) rfl rfl rfl ⟨by decide, by decide⟩ (Nat.le_of_ble_eq_true rfl) (Or.inl rfl) (fx_Mt.mono H fun v h61 hv => ?_)
              obtain ⟨rfl, e62, H⟩ := hv
              have hS61 := e62.trans hS56
              show fx_V l M_MO_inFax (0, 0) Q 0 0 146 [some (.ref 31), some (.int (zI x1)), some (.int (zI x2)), some (.int (zI x3)), some (.int (zI 0)), none] [] h61
              refine fx_iconst d_MO_inFax_146 ?_
              refine fx_istore (ls2 := [some (.ref 31), some (.int (zI x1)), some (.int (zI x2)), some (.int (zI x3)), some (.int (zI 0)), some (.int (zI 0))]) d_MO_inFax_147 (by decide) rfl ?_
              exact fx_fewer [some (.ref 31), some (.int (zI x1)), some (.int (zI x2)), some (.int (zI x3)), none, some (.int (zI 0))] ⟨rfl, rfl, rfl, rfl, rfl, trivial⟩ H
          · replace H := H.2 z55
            refine fx_iconst d_MO_inFax_114 ?_
            refine fx_goto (n := 119) d_MO_inFax_115 ?_
            refine fx_callV (M' := M_MO_need) (B' := (0, 0)) (vs := [.int (zI 1)]) (rest := []) (c1 := 0) (s1 := 0) (n := 122) d_MO_inFax_119 ca_MO_inFax_273 (at_31 (h := _) hS48) rfl rfl rfl ⟨by decide, by decide⟩ (Nat.le_of_ble_eq_true rfl) (Or.inl rfl) (fx_Mt.mono H fun v h63 hv => ?_)
            obtain ⟨r65, rfl, e64, H⟩ := hv
            have hS63 := e64.trans hS48
            show fx_V l M_MO_inFax (0, 0) Q 0 0 122 [some (.ref 31), some (.int (zI x1)), some (.int (zI x2)), some (.int (zI x3)), some (.int (zI 0)), none] [.int (zI r65)] h63
            refine fx_pop d_MO_inFax_122 rfl ?_
            refine fx_iload d_MO_inFax_123 rfl ?_
            refine fx_if_eq (t := 135) (n := 128) d_MO_inFax_125 (show zR 0 by decide) (fun z => ?_) (fun z => absurd (show ¬ ((0 : Int) = (0 : Int)) from z) (by decide))
            refine fx_aload_n (i := 0) d_MO_inFax_135 rfl rfl ?_
            refine fx_getI d_MO_inFax_136 lk_MO_264 (at_31 (h := _) hS63) rfl ?_
            obtain ⟨hz66, H⟩ := H
            refine fx_if_ne (t := 146) (n := 142) d_MO_inFax_139 hz66 (fun z67 => ?_) (fun z67 => ?_)
            · replace H := H.1 z67
              refine fx_iconst d_MO_inFax_146 ?_
              refine fx_istore (ls2 := [some (.ref 31), some (.int (zI x1)), some (.int (zI x2)), some (.int (zI x3)), some (.int (zI 0)), some (.int (zI 0))]) d_MO_inFax_147 (by decide) rfl ?_
              exact fx_fewer [some (.ref 31), some (.int (zI x1)), some (.int (zI x2)), some (.int (zI x3)), none, some (.int (zI 0))] ⟨rfl, rfl, rfl, rfl, rfl, trivial⟩ H
            · replace H := H.2 z67
              refine fx_aload_n (i := 0) d_MO_inFax_142 rfl rfl ?_
              refine fx_callV (M' := M_MO_inBy) (B' := (0, 0)) (vs := []) (rest := []) (c1 := 0) (s1 := 0) (n := 146) d_MO_inFax_143 ca_MO_inFax_310 (at_31 (h := _) hS63) rfl rfl rfl ⟨by decide, by decide⟩ (Nat.le_of_ble_eq_true rfl) (Or.inl rfl) (fx_Mt.mono H fun v h68 hv => ?_)
              obtain ⟨rfl, e69, H⟩ := hv
              have hS68 := e69.trans hS63
              show fx_V l M_MO_inFax (0, 0) Q 0 0 146 [some (.ref 31), some (.int (zI x1)), some (.int (zI x2)), some (.int (zI x3)), some (.int (zI 0)), none] [] h68
              refine fx_iconst d_MO_inFax_146 ?_
              refine fx_istore (ls2 := [some (.ref 31), some (.int (zI x1)), some (.int (zI x2)), some (.int (zI x3)), some (.int (zI 0)), some (.int (zI 0))]) d_MO_inFax_147 (by decide) rfl ?_
              exact fx_fewer [some (.ref 31), some (.int (zI x1)), some (.int (zI x2)), some (.int (zI x3)), none, some (.int (zI 0))] ⟨rfl, rfl, rfl, rfl, rfl, trivial⟩ H
        · replace H := H.2 z52
          refine fx_iconst d_MO_inFax_96 ?_
          refine fx_goto (n := 101) d_MO_inFax_97 ?_
          refine fx_istore (ls2 := [some (.ref 31), some (.int (zI x1)), some (.int (zI x2)), some (.int (zI x3)), some (.int (zI 1)), none]) d_MO_inFax_101 (by decide) rfl ?_
          refine fx_aload_n (i := 0) d_MO_inFax_103 rfl rfl ?_
          refine fx_iload d_MO_inFax_104 rfl ?_
          refine fx_if_ne (t := 114) (n := 109) d_MO_inFax_106 (show zR 1 by decide) (fun z => ?_) (fun z => absurd (show (1 : Int) = (0 : Int) from z) (by decide))
          refine fx_iconst d_MO_inFax_114 ?_
          refine fx_goto (n := 119) d_MO_inFax_115 ?_
          refine fx_callV (M' := M_MO_need) (B' := (0, 0)) (vs := [.int (zI 1)]) (rest := []) (c1 := 0) (s1 := 0) (n := 122) d_MO_inFax_119 ca_MO_inFax_273 (at_31 (h := _) hS48) rfl rfl rfl ⟨by decide, by decide⟩ (Nat.le_of_ble_eq_true rfl) (Or.inl rfl) (fx_Mt.mono H fun v h70 hv => ?_)
          obtain ⟨r72, rfl, e71, H⟩ := hv
          have hS70 := e71.trans hS48
          show fx_V l M_MO_inFax (0, 0) Q 0 0 122 [some (.ref 31), some (.int (zI x1)), some (.int (zI x2)), some (.int (zI x3)), some (.int (zI 1)), none] [.int (zI r72)] h70
          refine fx_pop d_MO_inFax_122 rfl ?_
          refine fx_iload d_MO_inFax_123 rfl ?_
          refine fx_if_eq (t := 135) (n := 128) d_MO_inFax_125 (show zR 1 by decide) (fun z => absurd (show (1 : Int) = (0 : Int) from z) (by decide)) (fun z => ?_)
          refine fx_aload_n (i := 0) d_MO_inFax_128 rfl rfl ?_
          refine fx_callV (M' := M_MO_inItself) (B' := (0, 0)) (vs := []) (rest := []) (c1 := 0) (s1 := 0) (n := 132) d_MO_inFax_129 ca_MO_inFax_307 (at_31 (h := _) hS70) rfl rfl rfl ⟨by decide, by decide⟩ (Nat.le_of_ble_eq_true rfl) (Or.inl rfl) (fx_Mt.mono H fun v h73 hv => ?_)
          obtain ⟨rfl, e74, H⟩ := hv
          have hS73 := e74.trans hS70
          show fx_V l M_MO_inFax (0, 0) Q 0 0 132 [some (.ref 31), some (.int (zI x1)), some (.int (zI x2)), some (.int (zI x3)), some (.int (zI 1)), none] [] h73
          refine fx_goto (n := 146) d_MO_inFax_132 ?_
          refine fx_iconst d_MO_inFax_146 ?_
          refine fx_istore (ls2 := [some (.ref 31), some (.int (zI x1)), some (.int (zI x2)), some (.int (zI x3)), some (.int (zI 1)), some (.int (zI 0))]) d_MO_inFax_147 (by decide) rfl ?_
          exact fx_fewer [some (.ref 31), some (.int (zI x1)), some (.int (zI x2)), some (.int (zI x3)), none, some (.int (zI 0))] ⟨rfl, rfl, rfl, rfl, rfl, trivial⟩ H
  · replace H := H.2 z3
    refine fx_aload_n (i := 0) d_MO_inFax_28 rfl rfl ?_
    refine fx_getR (q := 37) d_MO_inFax_29 lk_MO_44 (at_31 (h := _) hS) rfl rfl ?_
    refine fx_iload d_MO_inFax_32 rfl ?_
    refine fx_iload_n (i := 3) d_MO_inFax_34 rfl rfl ?_
    refine fx_iload_n (i := 1) d_MO_inFax_35 rfl rfl ?_
    obtain ⟨hz75, H⟩ := H
    obtain ⟨hz76, H⟩ := H
    refine fx_icmp_ne (t := 43) (n := 39) d_MO_inFax_36 hz75 hz76 (fun z77 => ?_) (fun z77 => ?_)
    · replace H := H.1 z77
      refine fx_aload_n (i := 0) d_MO_inFax_43 rfl rfl ?_
      refine fx_getR (q := 36) d_MO_inFax_44 lk_MO_41 (at_31 (h := _) hS) rfl rfl ?_
      refine fx_iload d_MO_inFax_47 rfl ?_
      obtain ⟨hn78, H⟩ := H
      obtain ⟨hn79, H⟩ := H
      refine fx_iald d_MO_inFax_49 (at_36 (h := _) hS) hn78 hn79 (by decide) ?_
      obtain ⟨hn80, H⟩ := H
      obtain ⟨hn81, H⟩ := H
      refine fx_iast d_MO_inFax_50 (at_37 (h := _) hS) hn80 hn81 (by decide) ?_
      refine fx_iinc (v := x4 + 1) (ls2 := [some (.ref 31), some (.int (zI x1)), some (.int (zI x2)), some (.int (zI x3)), some (.int (zI (x4 + 1))), none]) d_MO_inFax_51 rfl rfl (by decide) rfl ?_
      refine fx_goto (n := 19) d_MO_inFax_54 ?_
      exact H
    · replace H := H.2 z77
      refine fx_iconst d_MO_inFax_39 ?_
      refine fx_goto (n := 50) d_MO_inFax_40 ?_
      obtain ⟨hn82, H⟩ := H
      obtain ⟨hn83, H⟩ := H
      refine fx_iast d_MO_inFax_50 (at_37 (h := _) hS) hn82 hn83 (by decide) ?_
      refine fx_iinc (v := x4 + 1) (ls2 := [some (.ref 31), some (.int (zI x1)), some (.int (zI x2)), some (.int (zI x3)), some (.int (zI (x4 + 1))), none]) d_MO_inFax_51 rfl rfl (by decide) rfl ?_
      refine fx_goto (n := 19) d_MO_inFax_54 ?_
      exact H

set_option maxRecDepth 100000 in
set_option maxHeartbeats 4000000 in
theorem w_MO_inFax_149 {l : Launch} {Q : Option Value → fx_H → Prop} {h : fx_H}  {x1 : Int} {x2 : Int} {x3 : Int} {x5 : Int}  {a : Nat → Nat} {pp dd : Nat} (hS : h.1 = fx_S0 a pp dd) 
    (H : zR x5 ∧ zR (h.2.1 31 15) ∧ (((h.2.1 31 15) ≤ x5 → (fx_V l M_MO_inFax (0, 0) Q 0 0 2 [some (.ref 31), some (.int (zI x1)), some (.int (zI x2)), some (.int (zI (x3 + 1))), none, none] [] h)) ∧ (¬ ((h.2.1 31 15) ≤ x5) → 0 ≤ x5 ∧ x5 < 40 ∧ 0 ≤ (((h.2.1 31 15) * x3) + x5) ∧ (((h.2.1 31 15) * x3) + x5) < 960 ∧ (fx_V l M_MO_inFax (0, 0) Q 0 0 149 [some (.ref 31), some (.int (zI x1)), some (.int (zI x2)), some (.int (zI x3)), none, some (.int (zI (x5 + 1)))] [] (fx_uA h 34 ((((h.2.1 31 15) * x3) + x5).toNat) (h.2.2.1 36 (x5.toNat))))))) :
    fx_V l M_MO_inFax (0, 0) Q 0 0 149 [some (.ref 31), some (.int (zI x1)), some (.int (zI x2)), some (.int (zI x3)), none, some (.int (zI x5))] [] h := by
  refine fx_iload d_MO_inFax_149 rfl ?_
  refine fx_aload_n (i := 0) d_MO_inFax_151 rfl rfl ?_
  refine fx_getI d_MO_inFax_152 lk_MO_131 (at_31 (h := _) hS) rfl ?_
  obtain ⟨hz1, H⟩ := H
  obtain ⟨hz2, H⟩ := H
  refine fx_icmp_ge (t := 185) (n := 158) d_MO_inFax_155 hz1 hz2 (fun z3 => ?_) (fun z3 => ?_)
  · replace H := H.1 z3
    refine fx_iinc (v := x3 + 1) (ls2 := [some (.ref 31), some (.int (zI x1)), some (.int (zI x2)), some (.int (zI (x3 + 1))), none, some (.int (zI x5))]) d_MO_inFax_185 rfl rfl (by decide) rfl ?_
    refine fx_goto (n := 2) d_MO_inFax_188 ?_
    exact fx_fewer [some (.ref 31), some (.int (zI x1)), some (.int (zI x2)), some (.int (zI (x3 + 1))), none, none] ⟨rfl, rfl, rfl, rfl, trivial⟩ H
  · replace H := H.2 z3
    refine fx_aload_n (i := 0) d_MO_inFax_158 rfl rfl ?_
    refine fx_getR (q := 34) d_MO_inFax_159 lk_MO_35 (at_31 (h := _) hS) rfl rfl ?_
    refine fx_aload_n (i := 0) d_MO_inFax_162 rfl rfl ?_
    refine fx_getI d_MO_inFax_163 lk_MO_131 (at_31 (h := _) hS) rfl ?_
    refine fx_iload_n (i := 3) d_MO_inFax_166 rfl rfl ?_
    refine fx_imul d_MO_inFax_167 ?_
    refine fx_iload d_MO_inFax_168 rfl ?_
    refine fx_iadd d_MO_inFax_170 ?_
    refine fx_aload_n (i := 0) d_MO_inFax_171 rfl rfl ?_
    refine fx_getR (q := 36) d_MO_inFax_172 lk_MO_41 (at_31 (h := _) hS) rfl rfl ?_
    refine fx_iload d_MO_inFax_175 rfl ?_
    obtain ⟨hn4, H⟩ := H
    obtain ⟨hn5, H⟩ := H
    refine fx_iald d_MO_inFax_177 (at_36 (h := _) hS) hn4 hn5 (by decide) ?_
    obtain ⟨hn6, H⟩ := H
    obtain ⟨hn7, H⟩ := H
    refine fx_iast d_MO_inFax_178 (at_34 (h := _) hS) hn6 hn7 (by decide) ?_
    refine fx_iinc (v := x5 + 1) (ls2 := [some (.ref 31), some (.int (zI x1)), some (.int (zI x2)), some (.int (zI x3)), none, some (.int (zI (x5 + 1)))]) d_MO_inFax_179 rfl rfl (by decide) rfl ?_
    refine fx_goto (n := 149) d_MO_inFax_182 ?_
    exact H

