/-! what is owed of the numbers, by program (wip/printvc.py) -/
set_option maxRecDepth 100000 in
set_option maxHeartbeats 4000000 in
theorem e_MO_fill {l : Launch} {Q : Option Value → fx_H → Prop} {h : fx_H}  {x : Int} {y : Int} {z : Int} {u : Int} {w : Int} {s : Int} {n : Int}  {a : Nat → Nat} {pp dd : Nat} (hS : h.1 = fx_S0 a pp dd) 
    (H : 0 ≤ x ∧ x < 84 ∧ 0 ≤ (x + 1) ∧ (x + 1) < 84 ∧ 0 ≤ (x + 2) ∧ (x + 2) < 84 ∧ 0 ≤ (x + 3) ∧ (x + 3) < 84 ∧ zR (x + 4) ∧ ((82 ≤ (x + 4) → Q none (fx_uA (fx_uA (fx_uA (fx_uA h 35 (x.toNat) y) 35 ((x + 1).toNat) z) 35 ((x + 2).toNat) u) 35 ((x + 3).toNat) w)) ∧ (¬ (82 ≤ (x + 4)) → 0 ≤ (x + 4) ∧ (x + 4) < 84 ∧ 0 ≤ (x + 5) ∧ (x + 5) < 84 ∧ Q none (fx_uA (fx_uA (fx_uA (fx_uA (fx_uA (fx_uA h 35 (x.toNat) y) 35 ((x + 1).toNat) z) 35 ((x + 2).toNat) u) 35 ((x + 3).toNat) w) 35 ((x + 4).toNat) s) 35 ((x + 5).toNat) n)))) :
    fx_Mt l M_MO_fill (0, 0) [.ref 31, .int (zI x), .int (zI y), .int (zI z), .int (zI u), .int (zI w), .int (zI s), .int (zI n)] h Q := by
  refine fx_entry (ls := [some (.ref 31), some (.int (zI x)), some (.int (zI y)), some (.int (zI z)), some (.int (zI u)), some (.int (zI w)), some (.int (zI s)), some (.int (zI n))]) (by decide) (Nat.le_of_ble_eq_true rfl) rfl ?_
  refine fx_aload_n (i := 0) d_MO_fill_0 rfl rfl ?_
  refine fx_getR (q := 35) d_MO_fill_1 lk_MO_38 (at_31 (h := _) hS) rfl rfl ?_
  refine fx_iload_n (i := 1) d_MO_fill_4 rfl rfl ?_
  refine fx_iload_n (i := 2) d_MO_fill_5 rfl rfl ?_
  obtain ⟨hn1, H⟩ := H
  obtain ⟨hn2, H⟩ := H
  refine fx_iast d_MO_fill_6 (at_35 (h := _) hS) hn1 hn2 (by decide) ?_
  refine fx_aload_n (i := 0) d_MO_fill_7 rfl rfl ?_
  refine fx_getR (q := 35) d_MO_fill_8 lk_MO_38 (at_31 (h := _) hS) rfl rfl ?_
  refine fx_iload_n (i := 1) d_MO_fill_11 rfl rfl ?_
  refine fx_iconst d_MO_fill_12 ?_
  refine fx_iadd d_MO_fill_13 ?_
  refine fx_iload_n (i := 3) d_MO_fill_14 rfl rfl ?_
  obtain ⟨hn3, H⟩ := H
  obtain ⟨hn4, H⟩ := H
  refine fx_iast d_MO_fill_15 (at_35 (h := _) hS) hn3 hn4 (by decide) ?_
  refine fx_aload_n (i := 0) d_MO_fill_16 rfl rfl ?_
  refine fx_getR (q := 35) d_MO_fill_17 lk_MO_38 (at_31 (h := _) hS) rfl rfl ?_
  refine fx_iload_n (i := 1) d_MO_fill_20 rfl rfl ?_
  refine fx_iconst d_MO_fill_21 ?_
  refine fx_iadd d_MO_fill_22 ?_
  refine fx_iload d_MO_fill_23 rfl ?_
  obtain ⟨hn5, H⟩ := H
  obtain ⟨hn6, H⟩ := H
  refine fx_iast d_MO_fill_25 (at_35 (h := _) hS) hn5 hn6 (by decide) ?_
  refine fx_aload_n (i := 0) d_MO_fill_26 rfl rfl ?_
  refine fx_getR (q := 35) d_MO_fill_27 lk_MO_38 (at_31 (h := _) hS) rfl rfl ?_
  refine fx_iload_n (i := 1) d_MO_fill_30 rfl rfl ?_
  refine fx_iconst d_MO_fill_31 ?_
  refine fx_iadd d_MO_fill_32 ?_
  refine fx_iload d_MO_fill_33 rfl ?_
  obtain ⟨hn7, H⟩ := H
  obtain ⟨hn8, H⟩ := H
  refine fx_iast d_MO_fill_35 (at_35 (h := _) hS) hn7 hn8 (by decide) ?_
  refine fx_iload_n (i := 1) d_MO_fill_36 rfl rfl ?_
  refine fx_iconst d_MO_fill_37 ?_
  refine fx_iadd d_MO_fill_38 ?_
  refine fx_bipush (v := 82) d_MO_fill_39 rfl ?_
  obtain ⟨hz9, H⟩ := H
  refine fx_icmp_ge (t := 64) (n := 44) d_MO_fill_41 hz9 (show zR 82 by decide) (fun z10 => ?_) (fun z10 => ?_)
  · replace H := H.1 z10
    exact fx_end none ⟨rfl, d_MO_fill_64⟩ (Nat.le_refl _) (Nat.le_refl _) rfl H
  · replace H := H.2 z10
    refine fx_aload_n (i := 0) d_MO_fill_44 rfl rfl ?_
    refine fx_getR (q := 35) d_MO_fill_45 lk_MO_38 (at_31 (h := _) hS) rfl rfl ?_
    refine fx_iload_n (i := 1) d_MO_fill_48 rfl rfl ?_
    refine fx_iconst d_MO_fill_49 ?_
    refine fx_iadd d_MO_fill_50 ?_
    refine fx_iload d_MO_fill_51 rfl ?_
    obtain ⟨hn11, H⟩ := H
    obtain ⟨hn12, H⟩ := H
    refine fx_iast d_MO_fill_53 (at_35 (h := _) hS) hn11 hn12 (by decide) ?_
    refine fx_aload_n (i := 0) d_MO_fill_54 rfl rfl ?_
    refine fx_getR (q := 35) d_MO_fill_55 lk_MO_38 (at_31 (h := _) hS) rfl rfl ?_
    refine fx_iload_n (i := 1) d_MO_fill_58 rfl rfl ?_
    refine fx_iconst d_MO_fill_59 ?_
    refine fx_iadd d_MO_fill_60 ?_
    refine fx_iload d_MO_fill_61 rfl ?_
    obtain ⟨hn13, H⟩ := H
    obtain ⟨hn14, H⟩ := H
    refine fx_iast d_MO_fill_63 (at_35 (h := _) hS) hn13 hn14 (by decide) ?_
    exact fx_end none ⟨rfl, d_MO_fill_64⟩ (Nat.le_refl _) (Nat.le_refl _) rfl H

set_option maxRecDepth 100000 in
set_option maxHeartbeats 4000000 in
theorem e_MO_thrown {l : Launch} {Q : Option Value → fx_H → Prop} {h : fx_H}    {a : Nat → Nat} {pp dd : Nat} (hS : h.1 = fx_S0 a pp dd) 
    (H : Q (some (.int (zI (h.2.1 31 0)))) h) :
    fx_Mt l M_MO_thrown (0, 0) [.ref 31] h Q := by
  refine fx_entry (ls := [some (.ref 31)]) (by decide) (Nat.le_of_ble_eq_true rfl) rfl ?_
  refine fx_aload_n (i := 0) d_MO_thrown_0 rfl rfl ?_
  refine fx_getI d_MO_thrown_1 lk_MO_80 (at_31 (h := _) hS) rfl ?_
  exact fx_end (some (.int (zI (h.2.1 31 0)))) ⟨⟨_, rfl, rfl⟩, d_MO_thrown_4⟩ (Nat.le_refl _) (Nat.le_refl _) rfl H

set_option maxRecDepth 100000 in
set_option maxHeartbeats 4000000 in
theorem e_MO_blank {l : Launch} {Q : Option Value → fx_H → Prop} {h : fx_H}  {x : Int} {y : Int} {z : Int}  {a : Nat → Nat} {pp dd : Nat} (hS : h.1 = fx_S0 a pp dd) 
    (H : zR y ∧ zR z ∧ fx_Mt l M_MO_isSize (0, 0) [.int (zI x), .long (zL y), .long (zL z)] h (fun v h3 => ∃ r5 : Int, v = some (.int (zI r5)) ∧ h3.1 = h.1 ∧ zR r5 ∧ ((¬ r5 = 0 → fx_Mt l M_MO_refused (0, 0) [.ref 31, .int (zI 0), .int (zI 0)] h3 (fun v h8 => ∃ r10 : Int, v = some (.int (zI r10)) ∧ h8.1 = h3.1 ∧ zR r10 ∧ ((r10 = 0 → (x = 0 ∨ x = 1) ∧ (fx_V l M_MO_blank (0, 0) Q 0 0 43 [some (.ref 31), none, none, none, some (.int (zI 0))] [] (fx_uF (fx_uF (fx_uF h8 31 1 x) 31 2 y) 31 3 z))) ∧ (¬ (r10 = 0) → Q none h8)))) ∧ (r5 = 0 → fx_Mt l M_MO_refused (0, 0) [.ref 31, .int (zI 1), .int (zI 0)] h3 (fun v h14 => ∃ r16 : Int, v = some (.int (zI r16)) ∧ h14.1 = h3.1 ∧ zR r16 ∧ ((r16 = 0 → (x = 0 ∨ x = 1) ∧ (fx_V l M_MO_blank (0, 0) Q 0 0 43 [some (.ref 31), none, none, none, some (.int (zI 0))] [] (fx_uF (fx_uF (fx_uF h14 31 1 x) 31 2 y) 31 3 z))) ∧ (¬ (r16 = 0) → Q none h14))))))) :
    fx_Mt l M_MO_blank (0, 0) [.ref 31, .int (zI x), .int (zI y), .int (zI z)] h Q := by
  refine fx_entry (ls := [some (.ref 31), some (.int (zI x)), some (.int (zI y)), some (.int (zI z)), none]) (by decide) (Nat.le_of_ble_eq_true rfl) rfl ?_
  refine fx_aload_n (i := 0) d_MO_blank_0 rfl rfl ?_
  refine fx_iload_n (i := 1) d_MO_blank_1 rfl rfl ?_
  refine fx_iload_n (i := 2) d_MO_blank_2 rfl rfl ?_
  obtain ⟨hz1, H⟩ := H
  refine fx_i2l d_MO_blank_3 hz1 ?_
  refine fx_iload_n (i := 3) d_MO_blank_4 rfl rfl ?_
  obtain ⟨hz2, H⟩ := H
  refine fx_i2l d_MO_blank_5 hz2 ?_
  refine fx_callS (M' := M_MO_isSize) (B' := (0, 0)) (vs := [.int (zI x), .long (zL y), .long (zL z)]) (rest := [.ref 31]) (c1 := 0) (s1 := 0) (n := 9) d_MO_blank_6 ca_MO_blank_89 rfl rfl ⟨by decide, by decide⟩ (Nat.le_of_ble_eq_true rfl) (Or.inl rfl) (fx_Mt.mono H fun v h3 hv => ?_)
  obtain ⟨r5, rfl, e4, H⟩ := hv
  have hS3 := e4.trans hS
  show fx_V l M_MO_blank (0, 0) Q 0 0 9 [some (.ref 31), some (.int (zI x)), some (.int (zI y)), some (.int (zI z)), none] [.int (zI r5), .ref 31] h3
  obtain ⟨hz6, H⟩ := H
  refine fx_if_ne (t := 16) (n := 12) d_MO_blank_9 hz6 (fun z7 => ?_) (fun z7 => ?_)
  · replace H := H.1 z7
    refine fx_iconst d_MO_blank_16 ?_
    refine fx_iconst d_MO_blank_17 ?_
    refine fx_callV (M' := M_MO_refused) (B' := (0, 0)) (vs := [.int (zI 0), .int (zI 0)]) (rest := []) (c1 := 0) (s1 := 0) (n := 21) d_MO_blank_18 ca_MO_blank_93 (at_31 (h := _) hS3) rfl rfl rfl ⟨by decide, by decide⟩ (Nat.le_of_ble_eq_true rfl) (Or.inl rfl) (fx_Mt.mono H fun v h8 hv => ?_)
    obtain ⟨r10, rfl, e9, H⟩ := hv
    have hS8 := e9.trans hS3
    show fx_V l M_MO_blank (0, 0) Q 0 0 21 [some (.ref 31), some (.int (zI x)), some (.int (zI y)), some (.int (zI z)), none] [.int (zI r10)] h8
    obtain ⟨hz11, H⟩ := H
    refine fx_if_eq (t := 25) (n := 24) d_MO_blank_21 hz11 (fun z12 => ?_) (fun z12 => ?_)
    · replace H := H.1 z12
      refine fx_aload_n (i := 0) d_MO_blank_25 rfl rfl ?_
      refine fx_iload_n (i := 1) d_MO_blank_26 rfl rfl ?_
      obtain ⟨hn13, H⟩ := H
      refine fx_putI d_MO_blank_27 lk_MO_97 (at_31 (h := _) hS8) rfl (fx_nb hn13) (fx_fb hn13) ?_
      refine fx_aload_n (i := 0) d_MO_blank_30 rfl rfl ?_
      refine fx_iload_n (i := 2) d_MO_blank_31 rfl rfl ?_
      refine fx_putI d_MO_blank_32 lk_MO_7 (at_31 (h := _) hS8) rfl rfl rfl ?_
      refine fx_aload_n (i := 0) d_MO_blank_35 rfl rfl ?_
      refine fx_iload_n (i := 3) d_MO_blank_36 rfl rfl ?_
      refine fx_putI d_MO_blank_37 lk_MO_13 (at_31 (h := _) hS8) rfl rfl rfl ?_
      refine fx_iconst d_MO_blank_40 ?_
      refine fx_istore (ls2 := [some (.ref 31), some (.int (zI x)), some (.int (zI y)), some (.int (zI z)), some (.int (zI 0))]) d_MO_blank_41 (by decide) rfl ?_
      exact fx_fewer [some (.ref 31), none, none, none, some (.int (zI 0))] ⟨rfl, rfl, trivial⟩ H
    · replace H := H.2 z12
      exact fx_end none ⟨rfl, d_MO_blank_24⟩ (Nat.le_refl _) (Nat.le_refl _) rfl H
  · replace H := H.2 z7
    refine fx_iconst d_MO_blank_12 ?_
    refine fx_goto (n := 17) d_MO_blank_13 ?_
    refine fx_iconst d_MO_blank_17 ?_
    refine fx_callV (M' := M_MO_refused) (B' := (0, 0)) (vs := [.int (zI 1), .int (zI 0)]) (rest := []) (c1 := 0) (s1 := 0) (n := 21) d_MO_blank_18 ca_MO_blank_93 (at_31 (h := _) hS3) rfl rfl rfl ⟨by decide, by decide⟩ (Nat.le_of_ble_eq_true rfl) (Or.inl rfl) (fx_Mt.mono H fun v h14 hv => ?_)
    obtain ⟨r16, rfl, e15, H⟩ := hv
    have hS14 := e15.trans hS3
    show fx_V l M_MO_blank (0, 0) Q 0 0 21 [some (.ref 31), some (.int (zI x)), some (.int (zI y)), some (.int (zI z)), none] [.int (zI r16)] h14
    obtain ⟨hz17, H⟩ := H
    refine fx_if_eq (t := 25) (n := 24) d_MO_blank_21 hz17 (fun z18 => ?_) (fun z18 => ?_)
    · replace H := H.1 z18
      refine fx_aload_n (i := 0) d_MO_blank_25 rfl rfl ?_
      refine fx_iload_n (i := 1) d_MO_blank_26 rfl rfl ?_
      obtain ⟨hn19, H⟩ := H
      refine fx_putI d_MO_blank_27 lk_MO_97 (at_31 (h := _) hS14) rfl (fx_nb hn19) (fx_fb hn19) ?_
      refine fx_aload_n (i := 0) d_MO_blank_30 rfl rfl ?_
      refine fx_iload_n (i := 2) d_MO_blank_31 rfl rfl ?_
      refine fx_putI d_MO_blank_32 lk_MO_7 (at_31 (h := _) hS14) rfl rfl rfl ?_
      refine fx_aload_n (i := 0) d_MO_blank_35 rfl rfl ?_
      refine fx_iload_n (i := 3) d_MO_blank_36 rfl rfl ?_
      refine fx_putI d_MO_blank_37 lk_MO_13 (at_31 (h := _) hS14) rfl rfl rfl ?_
      refine fx_iconst d_MO_blank_40 ?_
      refine fx_istore (ls2 := [some (.ref 31), some (.int (zI x)), some (.int (zI y)), some (.int (zI z)), some (.int (zI 0))]) d_MO_blank_41 (by decide) rfl ?_
      exact fx_fewer [some (.ref 31), none, none, none, some (.int (zI 0))] ⟨rfl, rfl, trivial⟩ H
    · replace H := H.2 z18
      exact fx_end none ⟨rfl, d_MO_blank_24⟩ (Nat.le_refl _) (Nat.le_refl _) rfl H

set_option maxRecDepth 100000 in
set_option maxHeartbeats 4000000 in
theorem w_MO_blank_43 {l : Launch} {Q : Option Value → fx_H → Prop} {h : fx_H}  {x4 : Int}  {a : Nat → Nat} {pp dd : Nat} (hS : h.1 = fx_S0 a pp dd) 
    (H : zR x4 ∧ ((960 ≤ x4 → Q none h) ∧ (¬ (960 ≤ x4) → 0 ≤ x4 ∧ x4 < 960 ∧ (fx_V l M_MO_blank (0, 0) Q 0 0 43 [some (.ref 31), none, none, none, some (.int (zI (x4 + 1)))] [] (fx_uA h 32 (x4.toNat) 0))))) :
    fx_V l M_MO_blank (0, 0) Q 0 0 43 [some (.ref 31), none, none, none, some (.int (zI x4))] [] h := by
  refine fx_iload d_MO_blank_43 rfl ?_
  refine fx_sipush (v := 960) d_MO_blank_45 rfl ?_
  obtain ⟨hz1, H⟩ := H
  refine fx_icmp_ge (t := 65) (n := 51) d_MO_blank_48 hz1 (show zR 960 by decide) (fun z2 => ?_) (fun z2 => ?_)
  · replace H := H.1 z2
    exact fx_end none ⟨rfl, d_MO_blank_65⟩ (Nat.le_refl _) (Nat.le_refl _) rfl H
  · replace H := H.2 z2
    refine fx_aload_n (i := 0) d_MO_blank_51 rfl rfl ?_
    refine fx_getR (q := 32) d_MO_blank_52 lk_MO_16 (at_31 (h := _) hS) rfl rfl ?_
    refine fx_iload d_MO_blank_55 rfl ?_
    refine fx_iconst d_MO_blank_57 ?_
    obtain ⟨hn3, H⟩ := H
    obtain ⟨hn4, H⟩ := H
    refine fx_iast d_MO_blank_58 (at_32 (h := _) hS) hn3 hn4 (by decide) ?_
    refine fx_iinc (v := x4 + 1) (ls2 := [some (.ref 31), none, none, none, some (.int (zI (x4 + 1)))]) d_MO_blank_59 rfl rfl (by decide) rfl ?_
    refine fx_goto (n := 43) d_MO_blank_62 ?_
    exact H

set_option maxRecDepth 100000 in
set_option maxHeartbeats 4000000 in
theorem e_MO_isSize {l : Launch} {Q : Option Value → fx_H → Prop} {h : fx_H}  {x : Int} {y : Int} {z : Int}  {a : Nat → Nat} {pp dd : Nat} (hS : h.1 = fx_S0 a pp dd) 
    (H : zRL y ∧ (((zC y 1) < 0 → Q (some (.int (zI 0))) h) ∧ (¬ ((zC y 1) < 0) → zRL z ∧ (((zC z 1) < 0 → Q (some (.int (zI 0))) h) ∧ (¬ ((zC z 1) < 0) → zR x ∧ ((x = 0 → ((0 < (zC y 40) → Q (some (.int (zI 0))) h) ∧ (¬ (0 < (zC y 40)) → ((x = 0 → ((0 < (zC z 24) → Q (some (.int (zI 0))) h) ∧ (¬ (0 < (zC z 24)) → Q (some (.int (zI 1))) h))) ∧ (¬ (x = 0) → ((0 < (zC z 20) → Q (some (.int (zI 0))) h) ∧ (¬ (0 < (zC z 20)) → Q (some (.int (zI 1))) h))))))) ∧ (¬ (x = 0) → ((0 < (zC y 20) → Q (some (.int (zI 0))) h) ∧ (¬ (0 < (zC y 20)) → ((x = 0 → ((0 < (zC z 24) → Q (some (.int (zI 0))) h) ∧ (¬ (0 < (zC z 24)) → Q (some (.int (zI 1))) h))) ∧ (¬ (x = 0) → ((0 < (zC z 20) → Q (some (.int (zI 0))) h) ∧ (¬ (0 < (zC z 20)) → Q (some (.int (zI 1))) h))))))))))))) :
    fx_Mt l M_MO_isSize (0, 0) [.int (zI x), .long (zL y), .long (zL z)] h Q := by
  refine fx_entry (ls := [some (.int (zI x)), some (.long (zL y)), none, some (.long (zL z)), none]) (by decide) (Nat.le_of_ble_eq_true rfl) rfl ?_
  refine fx_lload_n (i := 1) d_MO_isSize_0 rfl rfl ?_
  refine fx_lconst (v := 1) d_MO_isSize_1 rfl ?_
  obtain ⟨hz1, H⟩ := H
  refine fx_lcmp d_MO_isSize_2 hz1 (show zRL 1 by decide) ?_
  refine fx_if_lt (t := 52) (n := 6) d_MO_isSize_3 (zC_R _ _) (fun z2 => ?_) (fun z2 => ?_)
  · replace H := H.1 z2
    refine fx_iconst d_MO_isSize_52 ?_
    exact fx_end (some (.int (zI 0))) ⟨⟨_, rfl, rfl⟩, d_MO_isSize_53⟩ (Nat.le_refl _) (Nat.le_refl _) rfl H
  · replace H := H.2 z2
    refine fx_lload_n (i := 3) d_MO_isSize_6 rfl rfl ?_
    refine fx_lconst (v := 1) d_MO_isSize_7 rfl ?_
    obtain ⟨hz3, H⟩ := H
    refine fx_lcmp d_MO_isSize_8 hz3 (show zRL 1 by decide) ?_
    refine fx_if_lt (t := 52) (n := 12) d_MO_isSize_9 (zC_R _ _) (fun z4 => ?_) (fun z4 => ?_)
    · replace H := H.1 z4
      refine fx_iconst d_MO_isSize_52 ?_
      exact fx_end (some (.int (zI 0))) ⟨⟨_, rfl, rfl⟩, d_MO_isSize_53⟩ (Nat.le_refl _) (Nat.le_refl _) rfl H
    · replace H := H.2 z4
      refine fx_lload_n (i := 1) d_MO_isSize_12 rfl rfl ?_
      refine fx_iload_n (i := 0) d_MO_isSize_13 rfl rfl ?_
      obtain ⟨hz5, H⟩ := H
      refine fx_if_eq (t := 23) (n := 17) d_MO_isSize_14 hz5 (fun z6 => ?_) (fun z6 => ?_)
      · replace H := H.1 z6
        refine fx_ldc2 (v := 40) d_MO_isSize_23 (fx_in 1022 (by decide +kernel) rfl) ?_
        refine fx_lcmp d_MO_isSize_26 hz1 (show zRL 40 by decide) ?_
        refine fx_if_gt (t := 52) (n := 30) d_MO_isSize_27 (zC_R _ _) (fun z7 => ?_) (fun z7 => ?_)
        · replace H := H.1 z7
          refine fx_iconst d_MO_isSize_52 ?_
          exact fx_end (some (.int (zI 0))) ⟨⟨_, rfl, rfl⟩, d_MO_isSize_53⟩ (Nat.le_refl _) (Nat.le_refl _) rfl H
        · replace H := H.2 z7
          refine fx_lload_n (i := 3) d_MO_isSize_30 rfl rfl ?_
          refine fx_iload_n (i := 0) d_MO_isSize_31 rfl rfl ?_
          refine fx_if_eq (t := 41) (n := 35) d_MO_isSize_32 hz5 (fun z8 => ?_) (fun z8 => ?_)
          · replace H := H.1 z8
            refine fx_ldc2 (v := 24) d_MO_isSize_41 (fx_in 1023 (by decide +kernel) rfl) ?_
            refine fx_lcmp d_MO_isSize_44 hz3 (show zRL 24 by decide) ?_
            refine fx_if_gt (t := 52) (n := 48) d_MO_isSize_45 (zC_R _ _) (fun z9 => ?_) (fun z9 => ?_)
            · replace H := H.1 z9
              refine fx_iconst d_MO_isSize_52 ?_
              exact fx_end (some (.int (zI 0))) ⟨⟨_, rfl, rfl⟩, d_MO_isSize_53⟩ (Nat.le_refl _) (Nat.le_refl _) rfl H
            · replace H := H.2 z9
              refine fx_iconst d_MO_isSize_48 ?_
              refine fx_goto (n := 53) d_MO_isSize_49 ?_
              exact fx_end (some (.int (zI 1))) ⟨⟨_, rfl, rfl⟩, d_MO_isSize_53⟩ (Nat.le_refl _) (Nat.le_refl _) rfl H
          · replace H := H.2 z8
            refine fx_ldc2 (v := 20) d_MO_isSize_35 (fx_in 1021 (by decide +kernel) rfl) ?_
            refine fx_goto (n := 44) d_MO_isSize_38 ?_
            refine fx_lcmp d_MO_isSize_44 hz3 (show zRL 20 by decide) ?_
            refine fx_if_gt (t := 52) (n := 48) d_MO_isSize_45 (zC_R _ _) (fun z10 => ?_) (fun z10 => ?_)
            · replace H := H.1 z10
              refine fx_iconst d_MO_isSize_52 ?_
              exact fx_end (some (.int (zI 0))) ⟨⟨_, rfl, rfl⟩, d_MO_isSize_53⟩ (Nat.le_refl _) (Nat.le_refl _) rfl H
            · replace H := H.2 z10
              refine fx_iconst d_MO_isSize_48 ?_
              refine fx_goto (n := 53) d_MO_isSize_49 ?_
              exact fx_end (some (.int (zI 1))) ⟨⟨_, rfl, rfl⟩, d_MO_isSize_53⟩ (Nat.le_refl _) (Nat.le_refl _) rfl H
      · replace H := H.2 z6
        refine fx_ldc2 (v := 20) d_MO_isSize_17 (fx_in 1021 (by decide +kernel) rfl) ?_
        refine fx_goto (n := 26) d_MO_isSize_20 ?_
        refine fx_lcmp d_MO_isSize_26 hz1 (show zRL 20 by decide) ?_
        refine fx_if_gt (t := 52) (n := 30) d_MO_isSize_27 (zC_R _ _) (fun z11 => ?_) (fun z11 => ?_)
        · replace H := H.1 z11
          refine fx_iconst d_MO_isSize_52 ?_
          exact fx_end (some (.int (zI 0))) ⟨⟨_, rfl, rfl⟩, d_MO_isSize_53⟩ (Nat.le_refl _) (Nat.le_refl _) rfl H
        · replace H := H.2 z11
          refine fx_lload_n (i := 3) d_MO_isSize_30 rfl rfl ?_
          refine fx_iload_n (i := 0) d_MO_isSize_31 rfl rfl ?_
          refine fx_if_eq (t := 41) (n := 35) d_MO_isSize_32 hz5 (fun z12 => ?_) (fun z12 => ?_)
          · replace H := H.1 z12
            refine fx_ldc2 (v := 24) d_MO_isSize_41 (fx_in 1023 (by decide +kernel) rfl) ?_
            refine fx_lcmp d_MO_isSize_44 hz3 (show zRL 24 by decide) ?_
            refine fx_if_gt (t := 52) (n := 48) d_MO_isSize_45 (zC_R _ _) (fun z13 => ?_) (fun z13 => ?_)
            · replace H := H.1 z13
              refine fx_iconst d_MO_isSize_52 ?_
              exact fx_end (some (.int (zI 0))) ⟨⟨_, rfl, rfl⟩, d_MO_isSize_53⟩ (Nat.le_refl _) (Nat.le_refl _) rfl H
            · replace H := H.2 z13
              refine fx_iconst d_MO_isSize_48 ?_
              refine fx_goto (n := 53) d_MO_isSize_49 ?_
              exact fx_end (some (.int (zI 1))) ⟨⟨_, rfl, rfl⟩, d_MO_isSize_53⟩ (Nat.le_refl _) (Nat.le_refl _) rfl H
          · replace H := H.2 z12
            refine fx_ldc2 (v := 20) d_MO_isSize_35 (fx_in 1021 (by decide +kernel) rfl) ?_
            refine fx_goto (n := 44) d_MO_isSize_38 ?_
            refine fx_lcmp d_MO_isSize_44 hz3 (show zRL 20 by decide) ?_
            refine fx_if_gt (t := 52) (n := 48) d_MO_isSize_45 (zC_R _ _) (fun z14 => ?_) (fun z14 => ?_)
            · replace H := H.1 z14
              refine fx_iconst d_MO_isSize_52 ?_
              exact fx_end (some (.int (zI 0))) ⟨⟨_, rfl, rfl⟩, d_MO_isSize_53⟩ (Nat.le_refl _) (Nat.le_refl _) rfl H
            · replace H := H.2 z14
              refine fx_iconst d_MO_isSize_48 ?_
              refine fx_goto (n := 53) d_MO_isSize_49 ?_
              exact fx_end (some (.int (zI 1))) ⟨⟨_, rfl, rfl⟩, d_MO_isSize_53⟩ (Nat.le_refl _) (Nat.le_refl _) rfl H

set_option maxRecDepth 100000 in
set_option maxHeartbeats 4000000 in
theorem e_MO_refused {l : Launch} {Q : Option Value → fx_H → Prop} {h : fx_H}  {x : Int} {y : Int}  {a : Nat → Nat} {pp dd : Nat} (hS : h.1 = fx_S0 a pp dd) 
    (H : zR x ∧ ((x = 0 → zR y ∧ ((y = 0 → Q (some (.int (zI 0))) (fx_uF h 31 0 0)) ∧ (¬ (y = 0) → Q (some (.int (zI 1))) (fx_uF h 31 0 2)))) ∧ (¬ (x = 0) → Q (some (.int (zI 1))) (fx_uF h 31 0 1)))) :
    fx_Mt l M_MO_refused (0, 0) [.ref 31, .int (zI x), .int (zI y)] h Q := by
  refine fx_entry (ls := [some (.ref 31), some (.int (zI x)), some (.int (zI y))]) (by decide) (Nat.le_of_ble_eq_true rfl) rfl ?_
  refine fx_aload_n (i := 0) d_MO_refused_0 rfl rfl ?_
  refine fx_iload_n (i := 1) d_MO_refused_1 rfl rfl ?_
  obtain ⟨hz1, H⟩ := H
  refine fx_if_eq (t := 9) (n := 5) d_MO_refused_2 hz1 (fun z2 => ?_) (fun z2 => ?_)
  · replace H := H.1 z2
    refine fx_iload_n (i := 2) d_MO_refused_9 rfl rfl ?_
    obtain ⟨hz3, H⟩ := H
    refine fx_if_eq (t := 17) (n := 13) d_MO_refused_10 hz3 (fun z4 => ?_) (fun z4 => ?_)
    · replace H := H.1 z4
      refine fx_iconst d_MO_refused_17 ?_
      refine fx_putI d_MO_refused_18 lk_MO_80 (at_31 (h := _) hS) rfl rfl rfl ?_
      refine fx_aload_n (i := 0) d_MO_refused_21 rfl rfl ?_
      refine fx_getI d_MO_refused_22 lk_MO_80 (at_31 (h := _) hS) rfl ?_
      refine fx_if_le (t := 32) (n := 28) d_MO_refused_25 (show zR 0 by decide) (fun z => ?_) (fun z => absurd (show ¬ ((0 : Int) ≤ (0 : Int)) from z) (by decide))
      refine fx_iconst d_MO_refused_32 ?_
      exact fx_end (some (.int (zI 0))) ⟨⟨_, rfl, rfl⟩, d_MO_refused_33⟩ (Nat.le_refl _) (Nat.le_refl _) rfl H
    · replace H := H.2 z4
      refine fx_iconst d_MO_refused_13 ?_
      refine fx_goto (n := 18) d_MO_refused_14 ?_
      refine fx_putI d_MO_refused_18 lk_MO_80 (at_31 (h := _) hS) rfl rfl rfl ?_
      refine fx_aload_n (i := 0) d_MO_refused_21 rfl rfl ?_
      refine fx_getI d_MO_refused_22 lk_MO_80 (at_31 (h := _) hS) rfl ?_
      refine fx_if_le (t := 32) (n := 28) d_MO_refused_25 (show zR 2 by decide) (fun z => absurd (show (2 : Int) ≤ (0 : Int) from z) (by decide)) (fun z => ?_)
      refine fx_iconst d_MO_refused_28 ?_
      refine fx_goto (n := 33) d_MO_refused_29 ?_
      exact fx_end (some (.int (zI 1))) ⟨⟨_, rfl, rfl⟩, d_MO_refused_33⟩ (Nat.le_refl _) (Nat.le_refl _) rfl H
  · replace H := H.2 z2
    refine fx_iconst d_MO_refused_5 ?_
    refine fx_goto (n := 18) d_MO_refused_6 ?_
    refine fx_putI d_MO_refused_18 lk_MO_80 (at_31 (h := _) hS) rfl rfl rfl ?_
    refine fx_aload_n (i := 0) d_MO_refused_21 rfl rfl ?_
    refine fx_getI d_MO_refused_22 lk_MO_80 (at_31 (h := _) hS) rfl ?_
    refine fx_if_le (t := 32) (n := 28) d_MO_refused_25 (show zR 1 by decide) (fun z => absurd (show (1 : Int) ≤ (0 : Int) from z) (by decide)) (fun z => ?_)
    refine fx_iconst d_MO_refused_28 ?_
    refine fx_goto (n := 33) d_MO_refused_29 ?_
    exact fx_end (some (.int (zI 1))) ⟨⟨_, rfl, rfl⟩, d_MO_refused_33⟩ (Nat.le_refl _) (Nat.le_refl _) rfl H

set_option maxRecDepth 100000 in
set_option maxHeartbeats 4000000 in
theorem e_MO_set {l : Launch} {Q : Option Value → fx_H → Prop} {h : fx_H}  {x : Int} {y : Int} {z : Int}  {a : Nat → Nat} {pp dd : Nat} (hS : h.1 = fx_S0 a pp dd) 
    (H : fx_Mt l M_MO_isPixel (0, 0) [.ref 31, .int (zI x), .int (zI y)] h (fun v h1 => ∃ r3 : Int, v = some (.int (zI r3)) ∧ h1.1 = h.1 ∧ zR r3 ∧ ((¬ r3 = 0 → zR z ∧ ((z < 0 → fx_Mt l M_MO_refused (0, 0) [.ref 31, .int (zI 0), .int (zI 1)] h1 (fun v h8 => ∃ r10 : Int, v = some (.int (zI r10)) ∧ h8.1 = h1.1 ∧ zR r10 ∧ ((¬ r10 = 0 → Q none h8) ∧ (r10 = 0 → 0 ≤ (((h8.2.1 31 2) * y) + x) ∧ (((h8.2.1 31 2) * y) + x) < 960 ∧ Q none (fx_uA h8 32 ((((h8.2.1 31 2) * y) + x).toNat) z))))) ∧ (¬ (z < 0) → zR (h1.2.1 31 1) ∧ (((h1.2.1 31 1) = 0 → ((z ≤ 1 → fx_Mt l M_MO_refused (0, 0) [.ref 31, .int (zI 0), .int (zI 0)] h1 (fun v h18 => ∃ r20 : Int, v = some (.int (zI r20)) ∧ h18.1 = h1.1 ∧ zR r20 ∧ ((¬ r20 = 0 → Q none h18) ∧ (r20 = 0 → 0 ≤ (((h18.2.1 31 2) * y) + x) ∧ (((h18.2.1 31 2) * y) + x) < 960 ∧ Q none (fx_uA h18 32 ((((h18.2.1 31 2) * y) + x).toNat) z))))) ∧ (¬ (z ≤ 1) → fx_Mt l M_MO_refused (0, 0) [.ref 31, .int (zI 0), .int (zI 1)] h1 (fun v h25 => ∃ r27 : Int, v = some (.int (zI r27)) ∧ h25.1 = h1.1 ∧ zR r27 ∧ ((¬ r27 = 0 → Q none h25) ∧ (r27 = 0 → 0 ≤ (((h25.2.1 31 2) * y) + x) ∧ (((h25.2.1 31 2) * y) + x) < 960 ∧ Q none (fx_uA h25 32 ((((h25.2.1 31 2) * y) + x).toNat) z))))))) ∧ (¬ ((h1.2.1 31 1) = 0) → ((z ≤ 255 → fx_Mt l M_MO_refused (0, 0) [.ref 31, .int (zI 0), .int (zI 0)] h1 (fun v h33 => ∃ r35 : Int, v = some (.int (zI r35)) ∧ h33.1 = h1.1 ∧ zR r35 ∧ ((¬ r35 = 0 → Q none h33) ∧ (r35 = 0 → 0 ≤ (((h33.2.1 31 2) * y) + x) ∧ (((h33.2.1 31 2) * y) + x) < 960 ∧ Q none (fx_uA h33 32 ((((h33.2.1 31 2) * y) + x).toNat) z))))) ∧ (¬ (z ≤ 255) → fx_Mt l M_MO_refused (0, 0) [.ref 31, .int (zI 0), .int (zI 1)] h1 (fun v h40 => ∃ r42 : Int, v = some (.int (zI r42)) ∧ h40.1 = h1.1 ∧ zR r42 ∧ ((¬ r42 = 0 → Q none h40) ∧ (r42 = 0 → 0 ≤ (((h40.2.1 31 2) * y) + x) ∧ (((h40.2.1 31 2) * y) + x) < 960 ∧ Q none (fx_uA h40 32 ((((h40.2.1 31 2) * y) + x).toNat) z))))))))))) ∧ (r3 = 0 → zR z ∧ ((z < 0 → fx_Mt l M_MO_refused (0, 0) [.ref 31, .int (zI 1), .int (zI 1)] h1 (fun v h49 => ∃ r51 : Int, v = some (.int (zI r51)) ∧ h49.1 = h1.1 ∧ zR r51 ∧ ((¬ r51 = 0 → Q none h49) ∧ (r51 = 0 → 0 ≤ (((h49.2.1 31 2) * y) + x) ∧ (((h49.2.1 31 2) * y) + x) < 960 ∧ Q none (fx_uA h49 32 ((((h49.2.1 31 2) * y) + x).toNat) z))))) ∧ (¬ (z < 0) → zR (h1.2.1 31 1) ∧ (((h1.2.1 31 1) = 0 → ((z ≤ 1 → fx_Mt l M_MO_refused (0, 0) [.ref 31, .int (zI 1), .int (zI 0)] h1 (fun v h59 => ∃ r61 : Int, v = some (.int (zI r61)) ∧ h59.1 = h1.1 ∧ zR r61 ∧ ((¬ r61 = 0 → Q none h59) ∧ (r61 = 0 → 0 ≤ (((h59.2.1 31 2) * y) + x) ∧ (((h59.2.1 31 2) * y) + x) < 960 ∧ Q none (fx_uA h59 32 ((((h59.2.1 31 2) * y) + x).toNat) z))))) ∧ (¬ (z ≤ 1) → fx_Mt l M_MO_refused (0, 0) [.ref 31, .int (zI 1), .int (zI 1)] h1 (fun v h66 => ∃ r68 : Int, v = some (.int (zI r68)) ∧ h66.1 = h1.1 ∧ zR r68 ∧ ((¬ r68 = 0 → Q none h66) ∧ (r68 = 0 → 0 ≤ (((h66.2.1 31 2) * y) + x) ∧ (((h66.2.1 31 2) * y) + x) < 960 ∧ Q none (fx_uA h66 32 ((((h66.2.1 31 2) * y) + x).toNat) z))))))) ∧ (¬ ((h1.2.1 31 1) = 0) → ((z ≤ 255 → fx_Mt l M_MO_refused (0, 0) [.ref 31, .int (zI 1), .int (zI 0)] h1 (fun v h74 => ∃ r76 : Int, v = some (.int (zI r76)) ∧ h74.1 = h1.1 ∧ zR r76 ∧ ((¬ r76 = 0 → Q none h74) ∧ (r76 = 0 → 0 ≤ (((h74.2.1 31 2) * y) + x) ∧ (((h74.2.1 31 2) * y) + x) < 960 ∧ Q none (fx_uA h74 32 ((((h74.2.1 31 2) * y) + x).toNat) z))))) ∧ (¬ (z ≤ 255) → fx_Mt l M_MO_refused (0, 0) [.ref 31, .int (zI 1), .int (zI 1)] h1 (fun v h81 => ∃ r83 : Int, v = some (.int (zI r83)) ∧ h81.1 = h1.1 ∧ zR r83 ∧ ((¬ r83 = 0 → Q none h81) ∧ (r83 = 0 → 0 ≤ (((h81.2.1 31 2) * y) + x) ∧ (((h81.2.1 31 2) * y) + x) < 960 ∧ Q none (fx_uA h81 32 ((((h81.2.1 31 2) * y) + x).toNat) z)))))))))))))) :
    fx_Mt l M_MO_set (0, 0) [.ref 31, .int (zI x), .int (zI y), .int (zI z)] h Q := by
  refine fx_entry (ls := [some (.ref 31), some (.int (zI x)), some (.int (zI y)), some (.int (zI z))]) (by decide) (Nat.le_of_ble_eq_true rfl) rfl ?_
  refine fx_aload_n (i := 0) d_MO_set_0 rfl rfl ?_
  refine fx_aload_n (i := 0) d_MO_set_1 rfl rfl ?_
  refine fx_iload_n (i := 1) d_MO_set_2 rfl rfl ?_
  refine fx_iload_n (i := 2) d_MO_set_3 rfl rfl ?_
  refine fx_callV (M' := M_MO_isPixel) (B' := (0, 0)) (vs := [.int (zI x), .int (zI y)]) (rest := [.ref 31]) (c1 := 0) (s1 := 0) (n := 7) d_MO_set_4 ca_MO_set_101 (at_31 (h := _) hS) rfl rfl rfl ⟨by decide, by decide⟩ (Nat.le_of_ble_eq_true rfl) (Or.inl rfl) (fx_Mt.mono H fun v h1 hv => ?_)
  obtain ⟨r3, rfl, e2, H⟩ := hv
  have hS1 := e2.trans hS
  show fx_V l M_MO_set (0, 0) Q 0 0 7 [some (.ref 31), some (.int (zI x)), some (.int (zI y)), some (.int (zI z))] [.int (zI r3), .ref 31] h1
  obtain ⟨hz4, H⟩ := H
  refine fx_if_ne (t := 14) (n := 10) d_MO_set_7 hz4 (fun z5 => ?_) (fun z5 => ?_)
  · replace H := H.1 z5
    refine fx_iconst d_MO_set_14 ?_
    refine fx_iload_n (i := 3) d_MO_set_15 rfl rfl ?_
    obtain ⟨hz6, H⟩ := H
    refine fx_if_lt (t := 37) (n := 19) d_MO_set_16 hz6 (fun z7 => ?_) (fun z7 => ?_)
    · replace H := H.1 z7
      refine fx_iconst d_MO_set_37 ?_
      refine fx_goto (n := 42) d_MO_set_38 ?_
      refine fx_callV (M' := M_MO_refused) (B' := (0, 0)) (vs := [.int (zI 0), .int (zI 1)]) (rest := []) (c1 := 0) (s1 := 0) (n := 45) d_MO_set_42 ca_MO_set_93 (at_31 (h := _) hS1) rfl rfl rfl ⟨by decide, by decide⟩ (Nat.le_of_ble_eq_true rfl) (Or.inl rfl) (fx_Mt.mono H fun v h8 hv => ?_)
      obtain ⟨r10, rfl, e9, H⟩ := hv
      have hS8 := e9.trans hS1
      show fx_V l M_MO_set (0, 0) Q 0 0 45 [some (.ref 31), some (.int (zI x)), some (.int (zI y)), some (.int (zI z))] [.int (zI r10)] h8
      obtain ⟨hz11, H⟩ := H
      refine fx_if_ne (t := 62) (n := 48) d_MO_set_45 hz11 (fun z12 => ?_) (fun z12 => ?_)
      · replace H := H.1 z12
        exact fx_end none ⟨rfl, d_MO_set_62⟩ (Nat.le_refl _) (Nat.le_refl _) rfl H
      · replace H := H.2 z12
        refine fx_aload_n (i := 0) d_MO_set_48 rfl rfl ?_
        refine fx_getR (q := 32) d_MO_set_49 lk_MO_16 (at_31 (h := _) hS8) rfl rfl ?_
        refine fx_aload_n (i := 0) d_MO_set_52 rfl rfl ?_
        refine fx_getI d_MO_set_53 lk_MO_7 (at_31 (h := _) hS8) rfl ?_
        refine fx_iload_n (i := 2) d_MO_set_56 rfl rfl ?_
        refine fx_imul d_MO_set_57 ?_
        refine fx_iload_n (i := 1) d_MO_set_58 rfl rfl ?_
        refine fx_iadd d_MO_set_59 ?_
        refine fx_iload_n (i := 3) d_MO_set_60 rfl rfl ?_
        obtain ⟨hn13, H⟩ := H
        obtain ⟨hn14, H⟩ := H
        refine fx_iast d_MO_set_61 (at_32 (h := _) hS8) hn13 hn14 (by decide) ?_
        exact fx_end none ⟨rfl, d_MO_set_62⟩ (Nat.le_refl _) (Nat.le_refl _) rfl H
    · replace H := H.2 z7
      refine fx_iload_n (i := 3) d_MO_set_19 rfl rfl ?_
      refine fx_aload_n (i := 0) d_MO_set_20 rfl rfl ?_
      refine fx_getI d_MO_set_21 lk_MO_97 (at_31 (h := _) hS1) rfl ?_
      obtain ⟨hz15, H⟩ := H
      refine fx_if_eq (t := 33) (n := 27) d_MO_set_24 hz15 (fun z16 => ?_) (fun z16 => ?_)
      · replace H := H.1 z16
        refine fx_iconst d_MO_set_33 ?_
        refine fx_icmp_le (t := 41) (n := 37) d_MO_set_34 hz6 (show zR 1 by decide) (fun z17 => ?_) (fun z17 => ?_)
        · replace H := H.1 z17
          refine fx_iconst d_MO_set_41 ?_
          refine fx_callV (M' := M_MO_refused) (B' := (0, 0)) (vs := [.int (zI 0), .int (zI 0)]) (rest := []) (c1 := 0) (s1 := 0) (n := 45) d_MO_set_42 ca_MO_set_93 (at_31 (h := _) hS1) rfl rfl rfl ⟨by decide, by decide⟩ (Nat.le_of_ble_eq_true rfl) (Or.inl rfl) (fx_Mt.mono H fun v h18 hv => ?_)
          obtain ⟨r20, rfl, e19, H⟩ := hv
          have hS18 := e19.trans hS1
          show fx_V l M_MO_set (0, 0) Q 0 0 45 [some (.ref 31), some (.int (zI x)), some (.int (zI y)), some (.int (zI z))] [.int (zI r20)] h18
          obtain ⟨hz21, H⟩ := H
          refine fx_if_ne (t := 62) (n := 48) d_MO_set_45 hz21 (fun z22 => ?_) (fun z22 => ?_)
          · replace H := H.1 z22
            exact fx_end none ⟨rfl, d_MO_set_62⟩ (Nat.le_refl _) (Nat.le_refl _) rfl H
          · replace H := H.2 z22
            refine fx_aload_n (i := 0) d_MO_set_48 rfl rfl ?_
            refine fx_getR (q := 32) d_MO_set_49 lk_MO_16 (at_31 (h := _) hS18) rfl rfl ?_
            refine fx_aload_n (i := 0) d_MO_set_52 rfl rfl ?_
            refine fx_getI d_MO_set_53 lk_MO_7 (at_31 (h := _) hS18) rfl ?_
            refine fx_iload_n (i := 2) d_MO_set_56 rfl rfl ?_
            refine fx_imul d_MO_set_57 ?_
            refine fx_iload_n (i := 1) d_MO_set_58 rfl rfl ?_
            refine fx_iadd d_MO_set_59 ?_
            refine fx_iload_n (i := 3) d_MO_set_60 rfl rfl ?_
            obtain ⟨hn23, H⟩ := H
            obtain ⟨hn24, H⟩ := H
            refine fx_iast d_MO_set_61 (at_32 (h := _) hS18) hn23 hn24 (by decide) ?_
            exact fx_end none ⟨rfl, d_MO_set_62⟩ (Nat.le_refl _) (Nat.le_refl _) rfl H
        · replace H := H.2 z17
          refine fx_iconst d_MO_set_37 ?_
          refine fx_goto (n := 42) d_MO_set_38 ?_
          refine fx_callV (M' := M_MO_refused) (B' := (0, 0)) (vs := [.int (zI 0), .int (zI 1)]) (rest := []) (c1 := 0) (s1 := 0) (n := 45) d_MO_set_42 ca_MO_set_93 (at_31 (h := _) hS1) rfl rfl rfl ⟨by decide, by decide⟩ (Nat.le_of_ble_eq_true rfl) (Or.inl rfl) (fx_Mt.mono H fun v h25 hv => ?_)
          obtain ⟨r27, rfl, e26, H⟩ := hv
          have hS25 := e26.trans hS1
          show fx_V l M_MO_set (0, 0) Q 0 0 45 [some (.ref 31), some (.int (zI x)), some (.int (zI y)), some (.int (zI z))] [.int (zI r27)] h25
          obtain ⟨hz28, H⟩ := H
          refine fx_if_ne (t := 62) (n := 48) d_MO_set_45 hz28 (fun z29 => ?_) (fun z29 => ?_)
          · replace H := H.1 z29
            exact fx_end none ⟨rfl, d_MO_set_62⟩ (Nat.le_refl _) (Nat.le_refl _) rfl H
          · replace H := H.2 z29
            refine fx_aload_n (i := 0) d_MO_set_48 rfl rfl ?_
            refine fx_getR (q := 32) d_MO_set_49 lk_MO_16 (at_31 (h := _) hS25) rfl rfl ?_
            refine fx_aload_n (i := 0) d_MO_set_52 rfl rfl ?_
            refine fx_getI d_MO_set_53 lk_MO_7 (at_31 (h := _) hS25) rfl ?_
            refine fx_iload_n (i := 2) d_MO_set_56 rfl rfl ?_
            refine fx_imul d_MO_set_57 ?_
            refine fx_iload_n (i := 1) d_MO_set_58 rfl rfl ?_
            refine fx_iadd d_MO_set_59 ?_
            refine fx_iload_n (i := 3) d_MO_set_60 rfl rfl ?_
            obtain ⟨hn30, H⟩ := H
            obtain ⟨hn31, H⟩ := H
            refine fx_iast d_MO_set_61 (at_32 (h := _) hS25) hn30 hn31 (by decide) ?_
            exact fx_end none ⟨rfl, d_MO_set_62⟩ (Nat.le_refl _) (Nat.le_refl _) rfl H
      · replace H := H.2 z16
        refine fx_sipush (v := 255) d_MO_set_27 rfl ?_
        refine fx_goto (n := 34) d_MO_set_30 ?_
        refine fx_icmp_le (t := 41) (n := 37) d_MO_set_34 hz6 (show zR 255 by decide) (fun z32 => ?_) (fun z32 => ?_)
        · replace H := H.1 z32
          refine fx_iconst d_MO_set_41 ?_
          refine fx_callV (M' := M_MO_refused) (B' := (0, 0)) (vs := [.int (zI 0), .int (zI 0)]) (rest := []) (c1 := 0) (s1 := 0) (n := 45) d_MO_set_42 ca_MO_set_93 (at_31 (h := _) hS1) rfl rfl rfl ⟨by decide, by decide⟩ (Nat.le_of_ble_eq_true rfl) (Or.inl rfl) (fx_Mt.mono H fun v h33 hv => ?_)
          obtain ⟨r35, rfl, e34, H⟩ := hv
          have hS33 := e34.trans hS1
          show fx_V l M_MO_set (0, 0) Q 0 0 45 [some (.ref 31), some (.int (zI x)), some (.int (zI y)), some (.int (zI z))] [.int (zI r35)] h33
          obtain ⟨hz36, H⟩ := H
          refine fx_if_ne (t := 62) (n := 48) d_MO_set_45 hz36 (fun z37 => ?_) (fun z37 => ?_)
          · replace H := H.1 z37
            exact fx_end none ⟨rfl, d_MO_set_62⟩ (Nat.le_refl _) (Nat.le_refl _) rfl H
          · replace H := H.2 z37
            refine fx_aload_n (i := 0) d_MO_set_48 rfl rfl ?_
            refine fx_getR (q := 32) d_MO_set_49 lk_MO_16 (at_31 (h := _) hS33) rfl rfl ?_
            refine fx_aload_n (i := 0) d_MO_set_52 rfl rfl ?_
            refine fx_getI d_MO_set_53 lk_MO_7 (at_31 (h := _) hS33) rfl ?_
            refine fx_iload_n (i := 2) d_MO_set_56 rfl rfl ?_
            refine fx_imul d_MO_set_57 ?_
            refine fx_iload_n (i := 1) d_MO_set_58 rfl rfl ?_
            refine fx_iadd d_MO_set_59 ?_
            refine fx_iload_n (i := 3) d_MO_set_60 rfl rfl ?_
            obtain ⟨hn38, H⟩ := H
            obtain ⟨hn39, H⟩ := H
            refine fx_iast d_MO_set_61 (at_32 (h := _) hS33) hn38 hn39 (by decide) ?_
            exact fx_end none ⟨rfl, d_MO_set_62⟩ (Nat.le_refl _) (Nat.le_refl _) rfl H
        · replace H := H.2 z32
          refine fx_iconst d_MO_set_37 ?_
          refine fx_goto (n := 42) d_MO_set_38 ?_
          refine fx_callV (M' := M_MO_refused) (B' := (0, 0)) (vs := [.int (zI 0), .int (zI 1)]) (rest := []) (c1 := 0) (s1 := 0) (n := 45) d_MO_set_42 ca_MO_set_93 (at_31 (h := _) hS1) rfl rfl rfl ⟨by decide, by decide⟩ (Nat.le_of_ble_eq_true rfl) (Or.inl rfl) (fx_Mt.mono H fun v h40 hv => ?_)
          obtain ⟨r42, rfl, e41, H⟩ := hv
          have hS40 := e41.trans hS1
          show fx_V l M_MO_set (0, 0) Q 0 0 45 [some (.ref 31), some (.int (zI x)), some (.int (zI y)), some (.int (zI z))] [.int (zI r42)] h40
          obtain ⟨hz43, H⟩ := H
          refine fx_if_ne (t := 62) (n := 48) d_MO_set_45 hz43 (fun z44 => ?_) (fun z44 => ?_)
          · replace H := H.1 z44
            exact fx_end none ⟨rfl, d_MO_set_62⟩ (Nat.le_refl _) (Nat.le_refl _) rfl H
          · replace H := H.2 z44
            refine fx_aload_n (i := 0) d_MO_set_48 rfl rfl ?_
            refine fx_getR (q := 32) d_MO_set_49 lk_MO_16 (at_31 (h := _) hS40) rfl rfl ?_
            refine fx_aload_n (i := 0) d_MO_set_52 rfl rfl ?_
            refine fx_getI d_MO_set_53 lk_MO_7 (at_31 (h := _) hS40) rfl ?_
            refine fx_iload_n (i := 2) d_MO_set_56 rfl rfl ?_
            refine fx_imul d_MO_set_57 ?_
            refine fx_iload_n (i := 1) d_MO_set_58 rfl rfl ?_
            refine fx_iadd d_MO_set_59 ?_
            refine fx_iload_n (i := 3) d_MO_set_60 rfl rfl ?_
            obtain ⟨hn45, H⟩ := H
            obtain ⟨hn46, H⟩ := H
            refine fx_iast d_MO_set_61 (at_32 (h := _) hS40) hn45 hn46 (by decide) ?_
            exact fx_end none ⟨rfl, d_MO_set_62⟩ (Nat.le_refl _) (Nat.le_refl _) rfl H
  · replace H := H.2 z5
    refine fx_iconst d_MO_set_10 ?_
    refine fx_goto (n := 15) d_MO_set_11 ?_
    refine fx_iload_n (i := 3) d_MO_set_15 rfl rfl ?_
    obtain ⟨hz47, H⟩ := H
    refine fx_if_lt (t := 37) (n := 19) d_MO_set_16 hz47 (fun z48 => ?_) (fun z48 => ?_)
    · replace H := H.1 z48
      refine fx_iconst d_MO_set_37 ?_
      refine fx_goto (n := 42) d_MO_set_38 ?_
      refine fx_callV (M' := M_MO_refused) (B' := (0, 0)) (vs := [.int (zI 1), .int (zI 1)]) (rest := []) (c1 := 0) (s1 := 0) (n := 45) d_MO_set_42 ca_MO_set_93 (at_31 (h := _) hS1) rfl rfl rfl ⟨by decide, by decide⟩ (Nat.le_of_ble_eq_true rfl) (Or.inl rfl) (fx_Mt.mono H fun v h49 hv => ?_)
      obtain ⟨r51, rfl, e50, H⟩ := hv
      have hS49 := e50.trans hS1
      show fx_V l M_MO_set (0, 0) Q 0 0 45 [some (.ref 31), some (.int (zI x)), some (.int (zI y)), some (.int (zI z))] [.int (zI r51)] h49
      obtain ⟨hz52, H⟩ := H
      refine fx_if_ne (t := 62) (n := 48) d_MO_set_45 hz52 (fun z53 => ?_) (fun z53 => ?_)
      · replace H := H.1 z53
        exact fx_end none ⟨rfl, d_MO_set_62⟩ (Nat.le_refl _) (Nat.le_refl _) rfl H
      · replace H := H.2 z53
        refine fx_aload_n (i := 0) d_MO_set_48 rfl rfl ?_
        refine fx_getR (q := 32) d_MO_set_49 lk_MO_16 (at_31 (h := _) hS49) rfl rfl ?_
        refine fx_aload_n (i := 0) d_MO_set_52 rfl rfl ?_
        refine fx_getI d_MO_set_53 lk_MO_7 (at_31 (h := _) hS49) rfl ?_
        refine fx_iload_n (i := 2) d_MO_set_56 rfl rfl ?_
        refine fx_imul d_MO_set_57 ?_
        refine fx_iload_n (i := 1) d_MO_set_58 rfl rfl ?_
        refine fx_iadd d_MO_set_59 ?_
        refine fx_iload_n (i := 3) d_MO_set_60 rfl rfl ?_
        obtain ⟨hn54, H⟩ := H
        obtain ⟨hn55, H⟩ := H
        refine fx_iast d_MO_set_61 (at_32 (h := _) hS49) hn54 hn55 (by decide) ?_
        exact fx_end none ⟨rfl, d_MO_set_62⟩ (Nat.le_refl _) (Nat.le_refl _) rfl H
    · replace H := H.2 z48
      refine fx_iload_n (i := 3) d_MO_set_19 rfl rfl ?_
      refine fx_aload_n (i := 0) d_MO_set_20 rfl rfl ?_
      refine fx_getI d_MO_set_21 lk_MO_97 (at_31 (h := _) hS1) rfl ?_
      obtain ⟨hz56, H⟩ := H
      refine fx_if_eq (t := 33) (n := 27) d_MO_set_24 hz56 (fun z57 => ?_) (fun z57 => ?_)
      · replace H := H.1 z57
        refine fx_iconst d_MO_set_33 ?_
        refine fx_icmp_le (t := 41) (n := 37) d_MO_set_34 hz47 (show zR 1 by decide) (fun z58 => ?_) (fun z58 => ?_)
        · replace H := H.1 z58
          refine fx_iconst d_MO_set_41 ?_
          refine fx_callV (M' := M_MO_refused) (B' := (0, 0)) (vs := [.int (zI 1), .int (zI 0)]) (rest := []) (c1 := 0) (s1 := 0) (n := 45) d_MO_set_42 ca_MO_set_93 (at_31 (h := _) hS1) rfl rfl rfl ⟨by decide, by decide⟩ (Nat.le_of_ble_eq_true rfl) (Or.inl rfl) (fx_Mt.mono H fun v h59 hv => ?_)
          obtain ⟨r61, rfl, e60, H⟩ := hv
          have hS59 := e60.trans hS1
          show fx_V l M_MO_set (0, 0) Q 0 0 45 [some (.ref 31), some (.int (zI x)), some (.int (zI y)), some (.int (zI z))] [.int (zI r61)] h59
          obtain ⟨hz62, H⟩ := H
          refine fx_if_ne (t := 62) (n := 48) d_MO_set_45 hz62 (fun z63 => ?_) (fun z63 => ?_)
          · replace H := H.1 z63
            exact fx_end none ⟨rfl, d_MO_set_62⟩ (Nat.le_refl _) (Nat.le_refl _) rfl H
          · replace H := H.2 z63
            refine fx_aload_n (i := 0) d_MO_set_48 rfl rfl ?_
            refine fx_getR (q := 32) d_MO_set_49 lk_MO_16 (at_31 (h := _) hS59) rfl rfl ?_
            refine fx_aload_n (i := 0) d_MO_set_52 rfl rfl ?_
            refine fx_getI d_MO_set_53 lk_MO_7 (at_31 (h := _) hS59) rfl ?_
            refine fx_iload_n (i := 2) d_MO_set_56 rfl rfl ?_
            refine fx_imul d_MO_set_57 ?_
            refine fx_iload_n (i := 1) d_MO_set_58 rfl rfl ?_
            refine fx_iadd d_MO_set_59 ?_
            refine fx_iload_n (i := 3) d_MO_set_60 rfl rfl ?_
            obtain ⟨hn64, H⟩ := H
            obtain ⟨hn65, H⟩ := H
            refine fx_iast d_MO_set_61 (at_32 (h := _) hS59) hn64 hn65 (by decide) ?_
            exact fx_end none ⟨rfl, d_MO_set_62⟩ (Nat.le_refl _) (Nat.le_refl _) rfl H
        · replace H := H.2 z58
          refine fx_iconst d_MO_set_37 ?_
          refine fx_goto (n := 42) d_MO_set_38 ?_
          refine fx_callV (M' := M_MO_refused) (B' := (0, 0)) (vs := [.int (zI 1), .int (zI 1)]) (rest := []) (c1 := 0) (s1 := 0) (n := 45) d_MO_set_42 ca_MO_set_93 (at_31 (h := _) hS1) rfl rfl rfl ⟨by decide, by decide⟩ (Nat.le_of_ble_eq_true rfl) (Or.inl rfl) (fx_Mt.mono H fun v h66 hv => ?_)
          obtain ⟨r68, rfl, e67, H⟩ := hv
          have hS66 := e67.trans hS1
          show fx_V l M_MO_set (0, 0) Q 0 0 45 [some (.ref 31), some (.int (zI x)), some (.int (zI y)), some (.int (zI z))] [.int (zI r68)] h66
          obtain ⟨hz69, H⟩ := H
          refine fx_if_ne (t := 62) (n := 48) d_MO_set_45 hz69 (fun z70 => ?_) (fun z70 => ?_)
          · replace H := H.1 z70
            exact fx_end none ⟨rfl, d_MO_set_62⟩ (Nat.le_refl _) (Nat.le_refl _) rfl H
          · replace H := H.2 z70
            refine fx_aload_n (i := 0) d_MO_set_48 rfl rfl ?_
            refine fx_getR (q := 32) d_MO_set_49 lk_MO_16 (at_31 (h := _) hS66) rfl rfl ?_
            refine fx_aload_n (i := 0) d_MO_set_52 rfl rfl ?_
            refine fx_getI d_MO_set_53 lk_MO_7 (at_31 (h := _) hS66) rfl ?_
            refine fx_iload_n (i := 2) d_MO_set_56 rfl rfl ?_
            refine fx_imul d_MO_set_57 ?_
            refine fx_iload_n (i := 1) d_MO_set_58 rfl rfl ?_
            refine fx_iadd d_MO_set_59 ?_
            refine fx_iload_n (i := 3) d_MO_set_60 rfl rfl ?_
            obtain ⟨hn71, H⟩ := H
            obtain ⟨hn72, H⟩ := H
            refine fx_iast d_MO_set_61 (at_32 (h := _) hS66) hn71 hn72 (by decide) ?_
            exact fx_end none ⟨rfl, d_MO_set_62⟩ (Nat.le_refl _) (Nat.le_refl _) rfl H
      · replace H := H.2 z57
        refine fx_sipush (v := 255) d_MO_set_27 rfl ?_
        refine fx_goto (n := 34) d_MO_set_30 ?_
        refine fx_icmp_le (t := 41) (n := 37) d_MO_set_34 hz47 (show zR 255 by decide) (fun z73 => ?_) (fun z73 => ?_)
        · replace H := H.1 z73
          refine fx_iconst d_MO_set_41 ?_
          refine fx_callV (M' := M_MO_refused) (B' := (0, 0)) (vs := [.int (zI 1), .int (zI 0)]) (rest := []) (c1 := 0) (s1 := 0) (n := 45) d_MO_set_42 ca_MO_set_93 (at_31 (h := _) hS1) rfl rfl rfl ⟨by decide, by decide⟩ (Nat.le_of_ble_eq_true rfl) (Or.inl rfl) (fx_Mt.mono H fun v h74 hv => ?_)
          obtain ⟨r76, rfl, e75, H⟩ := hv
          have hS74 := e75.trans hS1
          show fx_V l M_MO_set (0, 0) Q 0 0 45 [some (.ref 31), some (.int (zI x)), some (.int (zI y)), some (.int (zI z))] [.int (zI r76)] h74
          obtain ⟨hz77, H⟩ := H
          refine fx_if_ne (t := 62) (n := 48) d_MO_set_45 hz77 (fun z78 => ?_) (fun z78 => ?_)
          · replace H := H.1 z78
            exact fx_end none ⟨rfl, d_MO_set_62⟩ (Nat.le_refl _) (Nat.le_refl _) rfl H
          · replace H := H.2 z78
            refine fx_aload_n (i := 0) d_MO_set_48 rfl rfl ?_
            refine fx_getR (q := 32) d_MO_set_49 lk_MO_16 (at_31 (h := _) hS74) rfl rfl ?_
            refine fx_aload_n (i := 0) d_MO_set_52 rfl rfl ?_
            refine fx_getI d_MO_set_53 lk_MO_7 (at_31 (h := _) hS74) rfl ?_
            refine fx_iload_n (i := 2) d_MO_set_56 rfl rfl ?_
            refine fx_imul d_MO_set_57 ?_
            refine fx_iload_n (i := 1) d_MO_set_58 rfl rfl ?_
            refine fx_iadd d_MO_set_59 ?_
            refine fx_iload_n (i := 3) d_MO_set_60 rfl rfl ?_
            obtain ⟨hn79, H⟩ := H
            obtain ⟨hn80, H⟩ := H
            refine fx_iast d_MO_set_61 (at_32 (h := _) hS74) hn79 hn80 (by decide) ?_
            exact fx_end none ⟨rfl, d_MO_set_62⟩ (Nat.le_refl _) (Nat.le_refl _) rfl H
        · replace H := H.2 z73
          refine fx_iconst d_MO_set_37 ?_
          refine fx_goto (n := 42) d_MO_set_38 ?_
          refine fx_callV (M' := M_MO_refused) (B' := (0, 0)) (vs := [.int (zI 1), .int (zI 1)]) (rest := []) (c1 := 0) (s1 := 0) (n := 45) d_MO_set_42 ca_MO_set_93 (at_31 (h := _) hS1) rfl rfl rfl ⟨by decide, by decide⟩ (Nat.le_of_ble_eq_true rfl) (Or.inl rfl) (fx_Mt.mono H fun v h81 hv => ?_)
          obtain ⟨r83, rfl, e82, H⟩ := hv
          have hS81 := e82.trans hS1
          show fx_V l M_MO_set (0, 0) Q 0 0 45 [some (.ref 31), some (.int (zI x)), some (.int (zI y)), some (.int (zI z))] [.int (zI r83)] h81
          obtain ⟨hz84, H⟩ := H
          refine fx_if_ne (t := 62) (n := 48) d_MO_set_45 hz84 (fun z85 => ?_) (fun z85 => ?_)
          · replace H := H.1 z85
            exact fx_end none ⟨rfl, d_MO_set_62⟩ (Nat.le_refl _) (Nat.le_refl _) rfl H
          · replace H := H.2 z85
            refine fx_aload_n (i := 0) d_MO_set_48 rfl rfl ?_
            refine fx_getR (q := 32) d_MO_set_49 lk_MO_16 (at_31 (h := _) hS81) rfl rfl ?_
            refine fx_aload_n (i := 0) d_MO_set_52 rfl rfl ?_
            refine fx_getI d_MO_set_53 lk_MO_7 (at_31 (h := _) hS81) rfl ?_
            refine fx_iload_n (i := 2) d_MO_set_56 rfl rfl ?_
            refine fx_imul d_MO_set_57 ?_
            refine fx_iload_n (i := 1) d_MO_set_58 rfl rfl ?_
            refine fx_iadd d_MO_set_59 ?_
            refine fx_iload_n (i := 3) d_MO_set_60 rfl rfl ?_
            obtain ⟨hn86, H⟩ := H
            obtain ⟨hn87, H⟩ := H
            refine fx_iast d_MO_set_61 (at_32 (h := _) hS81) hn86 hn87 (by decide) ?_
            exact fx_end none ⟨rfl, d_MO_set_62⟩ (Nat.le_refl _) (Nat.le_refl _) rfl H

set_option maxRecDepth 100000 in
set_option maxHeartbeats 4000000 in
theorem e_MO_isPixel {l : Launch} {Q : Option Value → fx_H → Prop} {h : fx_H}  {x : Int} {y : Int}  {a : Nat → Nat} {pp dd : Nat} (hS : h.1 = fx_S0 a pp dd) 
    (H : zR x ∧ ((x < 0 → Q (some (.int (zI 0))) h) ∧ (¬ (x < 0) → zR (h.2.1 31 2) ∧ (((h.2.1 31 2) ≤ x → Q (some (.int (zI 0))) h) ∧ (¬ ((h.2.1 31 2) ≤ x) → zR y ∧ ((y < 0 → Q (some (.int (zI 0))) h) ∧ (¬ (y < 0) → zR (h.2.1 31 3) ∧ (((h.2.1 31 3) ≤ y → Q (some (.int (zI 0))) h) ∧ (¬ ((h.2.1 31 3) ≤ y) → Q (some (.int (zI 1))) h))))))))) :
    fx_Mt l M_MO_isPixel (0, 0) [.ref 31, .int (zI x), .int (zI y)] h Q := by
  refine fx_entry (ls := [some (.ref 31), some (.int (zI x)), some (.int (zI y))]) (by decide) (Nat.le_of_ble_eq_true rfl) rfl ?_
  refine fx_iload_n (i := 1) d_MO_isPixel_0 rfl rfl ?_
  obtain ⟨hz1, H⟩ := H
  refine fx_if_lt (t := 28) (n := 4) d_MO_isPixel_1 hz1 (fun z2 => ?_) (fun z2 => ?_)
  · replace H := H.1 z2
    refine fx_iconst d_MO_isPixel_28 ?_
    exact fx_end (some (.int (zI 0))) ⟨⟨_, rfl, rfl⟩, d_MO_isPixel_29⟩ (Nat.le_refl _) (Nat.le_refl _) rfl H
  · replace H := H.2 z2
    refine fx_iload_n (i := 1) d_MO_isPixel_4 rfl rfl ?_
    refine fx_aload_n (i := 0) d_MO_isPixel_5 rfl rfl ?_
    refine fx_getI d_MO_isPixel_6 lk_MO_7 (at_31 (h := _) hS) rfl ?_
    obtain ⟨hz3, H⟩ := H
    refine fx_icmp_ge (t := 28) (n := 12) d_MO_isPixel_9 hz1 hz3 (fun z4 => ?_) (fun z4 => ?_)
    · replace H := H.1 z4
      refine fx_iconst d_MO_isPixel_28 ?_
      exact fx_end (some (.int (zI 0))) ⟨⟨_, rfl, rfl⟩, d_MO_isPixel_29⟩ (Nat.le_refl _) (Nat.le_refl _) rfl H
    · replace H := H.2 z4
      refine fx_iload_n (i := 2) d_MO_isPixel_12 rfl rfl ?_
      obtain ⟨hz5, H⟩ := H
      refine fx_if_lt (t := 28) (n := 16) d_MO_isPixel_13 hz5 (fun z6 => ?_) (fun z6 => ?_)
      · replace H := H.1 z6
        refine fx_iconst d_MO_isPixel_28 ?_
        exact fx_end (some (.int (zI 0))) ⟨⟨_, rfl, rfl⟩, d_MO_isPixel_29⟩ (Nat.le_refl _) (Nat.le_refl _) rfl H
      · replace H := H.2 z6
        refine fx_iload_n (i := 2) d_MO_isPixel_16 rfl rfl ?_
        refine fx_aload_n (i := 0) d_MO_isPixel_17 rfl rfl ?_
        refine fx_getI d_MO_isPixel_18 lk_MO_13 (at_31 (h := _) hS) rfl ?_
        obtain ⟨hz7, H⟩ := H
        refine fx_icmp_ge (t := 28) (n := 24) d_MO_isPixel_21 hz5 hz7 (fun z8 => ?_) (fun z8 => ?_)
        · replace H := H.1 z8
          refine fx_iconst d_MO_isPixel_28 ?_
          exact fx_end (some (.int (zI 0))) ⟨⟨_, rfl, rfl⟩, d_MO_isPixel_29⟩ (Nat.le_refl _) (Nat.le_refl _) rfl H
        · replace H := H.2 z8
          refine fx_iconst d_MO_isPixel_24 ?_
          refine fx_goto (n := 29) d_MO_isPixel_25 ?_
          exact fx_end (some (.int (zI 1))) ⟨⟨_, rfl, rfl⟩, d_MO_isPixel_29⟩ (Nat.le_refl _) (Nat.le_refl _) rfl H

set_option maxRecDepth 100000 in
set_option maxHeartbeats 4000000 in
theorem e_MO_get {l : Launch} {Q : Option Value → fx_H → Prop} {h : fx_H}  {x : Int} {y : Int}  {a : Nat → Nat} {pp dd : Nat} (hS : h.1 = fx_S0 a pp dd) 
    (H : fx_Mt l M_MO_isPixel (0, 0) [.ref 31, .int (zI x), .int (zI y)] (fx_uF h 31 0 0) (fun v h1 => ∃ r3 : Int, v = some (.int (zI r3)) ∧ h1.1 = (fx_uF h 31 0 0).1 ∧ zR r3 ∧ ((r3 = 0 → Q (some (.int (zI (-9)))) h1) ∧ (¬ (r3 = 0) → 0 ≤ (((h1.2.1 31 2) * y) + x) ∧ (((h1.2.1 31 2) * y) + x) < 960 ∧ Q (some (.int (zI (h1.2.2.1 32 ((((h1.2.1 31 2) * y) + x).toNat))))) h1)))) :
    fx_Mt l M_MO_get (0, 0) [.ref 31, .int (zI x), .int (zI y)] h Q := by
  refine fx_entry (ls := [some (.ref 31), some (.int (zI x)), some (.int (zI y))]) (by decide) (Nat.le_of_ble_eq_true rfl) rfl ?_
  refine fx_aload_n (i := 0) d_MO_get_0 rfl rfl ?_
  refine fx_iconst d_MO_get_1 ?_
  refine fx_putI d_MO_get_2 lk_MO_80 (at_31 (h := _) hS) rfl rfl rfl ?_
  refine fx_aload_n (i := 0) d_MO_get_5 rfl rfl ?_
  refine fx_iload_n (i := 1) d_MO_get_6 rfl rfl ?_
  refine fx_iload_n (i := 2) d_MO_get_7 rfl rfl ?_
  refine fx_callV (M' := M_MO_isPixel) (B' := (0, 0)) (vs := [.int (zI x), .int (zI y)]) (rest := []) (c1 := 0) (s1 := 0) (n := 11) d_MO_get_8 ca_MO_get_101 (at_31 (h := _) hS) rfl rfl rfl ⟨by decide, by decide⟩ (Nat.le_of_ble_eq_true rfl) (Or.inl rfl) (fx_Mt.mono H fun v h1 hv => ?_)
  obtain ⟨r3, rfl, e2, H⟩ := hv
  have hS1 := e2.trans hS
  show fx_V l M_MO_get (0, 0) Q 0 0 11 [some (.ref 31), some (.int (zI x)), some (.int (zI y))] [.int (zI r3)] h1
  obtain ⟨hz4, H⟩ := H
  refine fx_if_eq (t := 30) (n := 14) d_MO_get_11 hz4 (fun z5 => ?_) (fun z5 => ?_)
  · replace H := H.1 z5
    refine fx_bipush (v := -9) d_MO_get_30 rfl ?_
    exact fx_end (some (.int (zI (-9)))) ⟨⟨_, rfl, rfl⟩, d_MO_get_32⟩ (Nat.le_refl _) (Nat.le_refl _) rfl H
  · replace H := H.2 z5
    refine fx_aload_n (i := 0) d_MO_get_14 rfl rfl ?_
    refine fx_getR (q := 32) d_MO_get_15 lk_MO_16 (at_31 (h := _) hS1) rfl rfl ?_
    refine fx_aload_n (i := 0) d_MO_get_18 rfl rfl ?_
    refine fx_getI d_MO_get_19 lk_MO_7 (at_31 (h := _) hS1) rfl ?_
    refine fx_iload_n (i := 2) d_MO_get_22 rfl rfl ?_
    refine fx_imul d_MO_get_23 ?_
    refine fx_iload_n (i := 1) d_MO_get_24 rfl rfl ?_
    refine fx_iadd d_MO_get_25 ?_
    obtain ⟨hn6, H⟩ := H
    obtain ⟨hn7, H⟩ := H
    refine fx_iald d_MO_get_26 (at_32 (h := _) hS1) hn6 hn7 (by decide) ?_
    refine fx_goto (n := 32) d_MO_get_27 ?_
    exact fx_end (some (.int (zI (h1.2.2.1 32 ((((h1.2.1 31 2) * y) + x).toNat))))) ⟨⟨_, rfl, rfl⟩, d_MO_get_32⟩ (Nat.le_refl _) (Nat.le_refl _) rfl H

set_option maxRecDepth 100000 in
set_option maxHeartbeats 4000000 in
theorem e_MO_info {l : Launch} {Q : Option Value → fx_H → Prop} {h : fx_H}  {x : Int}  {a : Nat → Nat} {pp dd : Nat} (hS : h.1 = fx_S0 a pp dd) 
    (H : zR x ∧ (((x < 0 ∨ 6 < x) → Q (some (.int (zI (-9)))) (fx_uF h 31 0 0)) ∧ (x = 0 → Q (some (.int (zI (h.2.1 31 2)))) (fx_uF h 31 0 0)) ∧ (x = 1 → Q (some (.int (zI (h.2.1 31 3)))) (fx_uF h 31 0 0)) ∧ (x = 2 → zR (h.2.1 31 1) ∧ (((h.2.1 31 1) = 0 → Q (some (.int (zI 0))) (fx_uF h 31 0 0)) ∧ (¬ ((h.2.1 31 1) = 0) → Q (some (.int (zI 1))) (fx_uF h 31 0 0)))) ∧ (x = 3 → Q (some (.int (zI (h.2.1 31 7)))) (fx_uF h 31 0 0)) ∧ (x = 4 → Q (some (.int (zI (h.2.1 31 8)))) (fx_uF h 31 0 0)) ∧ (x = 5 → Q (some (.int (zI (h.2.1 31 9)))) (fx_uF h 31 0 0)) ∧ (x = 6 → Q (some (.int (zI (h.2.1 31 10)))) (fx_uF h 31 0 0)))) :
    fx_Mt l M_MO_info (0, 0) [.ref 31, .int (zI x)] h Q := by
  refine fx_entry (ls := [some (.ref 31), some (.int (zI x))]) (by decide) (Nat.le_of_ble_eq_true rfl) rfl ?_
  refine fx_aload_n (i := 0) d_MO_info_0 rfl rfl ?_
  refine fx_iconst d_MO_info_1 ?_
  refine fx_putI d_MO_info_2 lk_MO_80 (at_31 (h := _) hS) rfl rfl rfl ?_
  refine fx_iload_n (i := 1) d_MO_info_5 rfl rfl ?_
  obtain ⟨hz1, H⟩ := H
  obtain ⟨H0, H⟩ := H
  rcases Classical.em (x < 0 ∨ 6 < x) with z2 | z2
  · replace H := H0 z2
    refine fx_tableOut (n := 91) d_MO_info_6 hz1 z2 ?_
    refine fx_bipush (v := -9) d_MO_info_91 rfl ?_
    exact fx_end (some (.int (zI (-9)))) ⟨⟨_, rfl, rfl⟩, d_MO_info_93⟩ (Nat.le_refl _) (Nat.le_refl _) rfl H
  · rcases (show x = 0 ∨ x = 1 ∨ x = 2 ∨ x = 3 ∨ x = 4 ∨ x = 5 ∨ x = 6 by omega) with z2e | z2e | z2e | z2e | z2e | z2e | z2e
    · replace H := H.1 z2e
      refine fx_tableIn (n := 48) d_MO_info_6 hz1 (by omega) (by omega) (by rw [z2e]; rfl) ?_
      refine fx_aload_n (i := 0) d_MO_info_48 rfl rfl ?_
      refine fx_getI d_MO_info_49 lk_MO_7 (at_31 (h := _) hS) rfl ?_
      exact fx_end (some (.int (zI (h.2.1 31 2)))) ⟨⟨_, rfl, rfl⟩, d_MO_info_52⟩ (Nat.le_refl _) (Nat.le_refl _) rfl H
    · replace H := H.2.1 z2e
      refine fx_tableIn (n := 53) d_MO_info_6 hz1 (by omega) (by omega) (by rw [z2e]; rfl) ?_
      refine fx_aload_n (i := 0) d_MO_info_53 rfl rfl ?_
      refine fx_getI d_MO_info_54 lk_MO_13 (at_31 (h := _) hS) rfl ?_
      exact fx_end (some (.int (zI (h.2.1 31 3)))) ⟨⟨_, rfl, rfl⟩, d_MO_info_57⟩ (Nat.le_refl _) (Nat.le_refl _) rfl H
    · replace H := H.2.2.1 z2e
      refine fx_tableIn (n := 58) d_MO_info_6 hz1 (by omega) (by omega) (by rw [z2e]; rfl) ?_
      refine fx_aload_n (i := 0) d_MO_info_58 rfl rfl ?_
      refine fx_getI d_MO_info_59 lk_MO_97 (at_31 (h := _) hS) rfl ?_
      obtain ⟨hz3, H⟩ := H
      refine fx_if_eq (t := 69) (n := 65) d_MO_info_62 hz3 (fun z4 => ?_) (fun z4 => ?_)
      · replace H := H.1 z4
        refine fx_iconst d_MO_info_69 ?_
        exact fx_end (some (.int (zI 0))) ⟨⟨_, rfl, rfl⟩, d_MO_info_70⟩ (Nat.le_refl _) (Nat.le_refl _) rfl H
      · replace H := H.2 z4
        refine fx_iconst d_MO_info_65 ?_
        refine fx_goto (n := 70) d_MO_info_66 ?_
        exact fx_end (some (.int (zI 1))) ⟨⟨_, rfl, rfl⟩, d_MO_info_70⟩ (Nat.le_refl _) (Nat.le_refl _) rfl H
    · replace H := H.2.2.2.1 z2e
      refine fx_tableIn (n := 71) d_MO_info_6 hz1 (by omega) (by omega) (by rw [z2e]; rfl) ?_
      refine fx_aload_n (i := 0) d_MO_info_71 rfl rfl ?_
      refine fx_getI d_MO_info_72 lk_MO_23 (at_31 (h := _) hS) rfl ?_
      exact fx_end (some (.int (zI (h.2.1 31 7)))) ⟨⟨_, rfl, rfl⟩, d_MO_info_75⟩ (Nat.le_refl _) (Nat.le_refl _) rfl H
    · replace H := H.2.2.2.2.1 z2e
      refine fx_tableIn (n := 76) d_MO_info_6 hz1 (by omega) (by omega) (by rw [z2e]; rfl) ?_
      refine fx_aload_n (i := 0) d_MO_info_76 rfl rfl ?_
      refine fx_getI d_MO_info_77 lk_MO_26 (at_31 (h := _) hS) rfl ?_
      exact fx_end (some (.int (zI (h.2.1 31 8)))) ⟨⟨_, rfl, rfl⟩, d_MO_info_80⟩ (Nat.le_refl _) (Nat.le_refl _) rfl H
    · replace H := H.2.2.2.2.2.1 z2e
      refine fx_tableIn (n := 81) d_MO_info_6 hz1 (by omega) (by omega) (by rw [z2e]; rfl) ?_
      refine fx_aload_n (i := 0) d_MO_info_81 rfl rfl ?_
      refine fx_getI d_MO_info_82 lk_MO_29 (at_31 (h := _) hS) rfl ?_
      exact fx_end (some (.int (zI (h.2.1 31 9)))) ⟨⟨_, rfl, rfl⟩, d_MO_info_85⟩ (Nat.le_refl _) (Nat.le_refl _) rfl H
    · replace H := H.2.2.2.2.2.2 z2e
      refine fx_tableIn (n := 86) d_MO_info_6 hz1 (by omega) (by omega) (by rw [z2e]; rfl) ?_
      refine fx_aload_n (i := 0) d_MO_info_86 rfl rfl ?_
      refine fx_getI d_MO_info_87 lk_MO_32 (at_31 (h := _) hS) rfl ?_
      exact fx_end (some (.int (zI (h.2.1 31 10)))) ⟨⟨_, rfl, rfl⟩, d_MO_info_90⟩ (Nat.le_refl _) (Nat.le_refl _) rfl H

set_option maxRecDepth 100000 in
set_option maxHeartbeats 4000000 in
theorem e_MO_write {l : Launch} {Q : Option Value → fx_H → Prop} {h : fx_H}  {x : Int} {y : Int} {z : Int}  {a : Nat → Nat} {pp dd : Nat} (hS : h.1 = fx_S0 a pp dd) 
    (H : zR x ∧ ((x = 3 → (fx_V l M_MO_write (0, 0) Q 0 0 15 [some (.ref 31), some (.int (zI x)), some (.int (zI y)), some (.int (zI z)), none, none, none, none] [.int (zI 1)] h)) ∧ (¬ (x = 3) → ((¬ x = 4 → (fx_V l M_MO_write (0, 0) Q 0 0 15 [some (.ref 31), some (.int (zI x)), some (.int (zI y)), some (.int (zI z)), none, none, none, none] [.int (zI 0)] h)) ∧ (x = 4 → (fx_V l M_MO_write (0, 0) Q 0 0 15 [some (.ref 31), some (.int (zI x)), some (.int (zI y)), some (.int (zI z)), none, none, none, none] [.int (zI 1)] h)))))) :
    fx_Mt l M_MO_write (0, 0) [.ref 31, .int (zI x), .int (zI y), .int (zI z)] h Q := by
  refine fx_entry (ls := [some (.ref 31), some (.int (zI x)), some (.int (zI y)), some (.int (zI z)), none, none, none, none]) (by decide) (Nat.le_of_ble_eq_true rfl) rfl ?_
  refine fx_iload_n (i := 1) d_MO_write_0 rfl rfl ?_
  refine fx_iconst d_MO_write_1 ?_
  obtain ⟨hz1, H⟩ := H
  refine fx_icmp_eq (t := 10) (n := 5) d_MO_write_2 hz1 (show zR 3 by decide) (fun z2 => ?_) (fun z2 => ?_)
  · replace H := H.1 z2
    refine fx_iconst d_MO_write_10 ?_
    refine fx_goto (n := 15) d_MO_write_11 ?_
    exact H
  · replace H := H.2 z2
    refine fx_iload_n (i := 1) d_MO_write_5 rfl rfl ?_
    refine fx_iconst d_MO_write_6 ?_
    refine fx_icmp_ne (t := 14) (n := 10) d_MO_write_7 hz1 (show zR 4 by decide) (fun z3 => ?_) (fun z3 => ?_)
    · replace H := H.1 z3
      refine fx_iconst d_MO_write_14 ?_
      exact H
    · replace H := H.2 z3
      refine fx_iconst d_MO_write_10 ?_
      refine fx_goto (n := 15) d_MO_write_11 ?_
      exact H

set_option maxRecDepth 100000 in
set_option maxHeartbeats 4000000 in
theorem w_MO_write_15 {l : Launch} {Q : Option Value → fx_H → Prop} {h : fx_H}  {x1 : Int} {x2 : Int} {x3 : Int} {y0 : Int}  {a : Nat → Nat} {pp dd : Nat} (hS : h.1 = fx_S0 a pp dd) 
    (H : zR x1 ∧ fx_Mt l M_MO_isScheme (0, 0) [.long (zL x1)] h (fun v h2 => ∃ r4 : Int, v = some (.int (zI r4)) ∧ h2.1 = h.1 ∧ zR r4 ∧ ((r4 = 0 → zR y0 ∧ ((y0 = 0 → (fx_V l M_MO_write (0, 0) Q 0 0 61 [some (.ref 31), some (.int (zI x1)), some (.int (zI x2)), some (.int (zI x3)), none, none, none, none] [.int (zI 0), .int (zI 1), .ref 31] h2)) ∧ (¬ (y0 = 0) → zR (h2.2.1 31 1) ∧ (((h2.2.1 31 1) = 0 → (fx_V l M_MO_write (0, 0) Q 0 0 61 [some (.ref 31), some (.int (zI x1)), some (.int (zI x2)), some (.int (zI x3)), none, none, none, none] [.int (zI 0), .int (zI 1), .ref 31] h2)) ∧ (¬ ((h2.2.1 31 1) = 0) → (fx_V l M_MO_write (0, 0) Q 0 0 61 [some (.ref 31), some (.int (zI x1)), some (.int (zI x2)), some (.int (zI x3)), none, none, none, none] [.int (zI 1), .int (zI 1), .ref 31] h2)))))) ∧ (¬ (r4 = 0) → zR x3 ∧ ((x3 < 1 → zR y0 ∧ ((y0 = 0 → (fx_V l M_MO_write (0, 0) Q 0 0 61 [some (.ref 31), some (.int (zI x1)), some (.int (zI x2)), some (.int (zI x3)), none, none, none, none] [.int (zI 0), .int (zI 1), .ref 31] h2)) ∧ (¬ (y0 = 0) → zR (h2.2.1 31 1) ∧ (((h2.2.1 31 1) = 0 → (fx_V l M_MO_write (0, 0) Q 0 0 61 [some (.ref 31), some (.int (zI x1)), some (.int (zI x2)), some (.int (zI x3)), none, none, none, none] [.int (zI 0), .int (zI 1), .ref 31] h2)) ∧ (¬ ((h2.2.1 31 1) = 0) → (fx_V l M_MO_write (0, 0) Q 0 0 61 [some (.ref 31), some (.int (zI x1)), some (.int (zI x2)), some (.int (zI x3)), none, none, none, none] [.int (zI 1), .int (zI 1), .ref 31] h2)))))) ∧ (¬ (x3 < 1) → zR (h2.2.1 31 3) ∧ ((x3 ≤ (h2.2.1 31 3) → zR y0 ∧ ((y0 = 0 → (fx_V l M_MO_write (0, 0) Q 0 0 61 [some (.ref 31), some (.int (zI x1)), some (.int (zI x2)), some (.int (zI x3)), none, none, none, none] [.int (zI 0), .int (zI 0), .ref 31] h2)) ∧ (¬ (y0 = 0) → zR (h2.2.1 31 1) ∧ (((h2.2.1 31 1) = 0 → (fx_V l M_MO_write (0, 0) Q 0 0 61 [some (.ref 31), some (.int (zI x1)), some (.int (zI x2)), some (.int (zI x3)), none, none, none, none] [.int (zI 0), .int (zI 0), .ref 31] h2)) ∧ (¬ ((h2.2.1 31 1) = 0) → (fx_V l M_MO_write (0, 0) Q 0 0 61 [some (.ref 31), some (.int (zI x1)), some (.int (zI x2)), some (.int (zI x3)), none, none, none, none] [.int (zI 1), .int (zI 0), .ref 31] h2)))))) ∧ (¬ (x3 ≤ (h2.2.1 31 3)) → zR y0 ∧ ((y0 = 0 → (fx_V l M_MO_write (0, 0) Q 0 0 61 [some (.ref 31), some (.int (zI x1)), some (.int (zI x2)), some (.int (zI x3)), none, none, none, none] [.int (zI 0), .int (zI 1), .ref 31] h2)) ∧ (¬ (y0 = 0) → zR (h2.2.1 31 1) ∧ (((h2.2.1 31 1) = 0 → (fx_V l M_MO_write (0, 0) Q 0 0 61 [some (.ref 31), some (.int (zI x1)), some (.int (zI x2)), some (.int (zI x3)), none, none, none, none] [.int (zI 0), .int (zI 1), .ref 31] h2)) ∧ (¬ ((h2.2.1 31 1) = 0) → (fx_V l M_MO_write (0, 0) Q 0 0 61 [some (.ref 31), some (.int (zI x1)), some (.int (zI x2)), some (.int (zI x3)), none, none, none, none] [.int (zI 1), .int (zI 1), .ref 31] h2))))))))))))) :
    fx_V l M_MO_write (0, 0) Q 0 0 15 [some (.ref 31), some (.int (zI x1)), some (.int (zI x2)), some (.int (zI x3)), none, none, none, none] [.int (zI y0)] h := by
  refine fx_istore (ls2 := [some (.ref 31), some (.int (zI x1)), some (.int (zI x2)), some (.int (zI x3)), some (.int (zI y0)), none, none, none]) d_MO_write_15 (by decide) rfl ?_
  refine fx_aload_n (i := 0) d_MO_write_17 rfl rfl ?_
  refine fx_iload_n (i := 1) d_MO_write_18 rfl rfl ?_
  obtain ⟨hz1, H⟩ := H
  refine fx_i2l d_MO_write_19 hz1 ?_
  refine fx_callS (M' := M_MO_isScheme) (B' := (0, 0)) (vs := [.long (zL x1)]) (rest := [.ref 31]) (c1 := 0) (s1 := 0) (n := 23) d_MO_write_20 ca_MO_write_222 rfl rfl ⟨by decide, by decide⟩ (Nat.le_of_ble_eq_true rfl) (Or.inl rfl) (fx_Mt.mono H fun v h2 hv => ?_)
  obtain ⟨r4, rfl, e3, H⟩ := hv
  have hS2 := e3.trans hS
  show fx_V l M_MO_write (0, 0) Q 0 0 23 [some (.ref 31), some (.int (zI x1)), some (.int (zI x2)), some (.int (zI x3)), some (.int (zI y0)), none, none, none] [.int (zI r4), .ref 31] h2
  obtain ⟨hz5, H⟩ := H
  refine fx_if_eq (t := 39) (n := 26) d_MO_write_23 hz5 (fun z6 => ?_) (fun z6 => ?_)
  · replace H := H.1 z6
    refine fx_iconst d_MO_write_39 ?_
    refine fx_goto (n := 44) d_MO_write_40 ?_
    refine fx_iload d_MO_write_44 rfl ?_
    obtain ⟨hz7, H⟩ := H
    refine fx_if_eq (t := 60) (n := 49) d_MO_write_46 hz7 (fun z8 => ?_) (fun z8 => ?_)
    · replace H := H.1 z8
      refine fx_iconst d_MO_write_60 ?_
      exact fx_fewer [some (.ref 31), some (.int (zI x1)), some (.int (zI x2)), some (.int (zI x3)), none, none, none, none] ⟨rfl, rfl, rfl, rfl, trivial⟩ H
    · replace H := H.2 z8
      refine fx_aload_n (i := 0) d_MO_write_49 rfl rfl ?_
      refine fx_getI d_MO_write_50 lk_MO_97 (at_31 (h := _) hS2) rfl ?_
      obtain ⟨hz9, H⟩ := H
      refine fx_if_eq (t := 60) (n := 56) d_MO_write_53 hz9 (fun z10 => ?_) (fun z10 => ?_)
      · replace H := H.1 z10
        refine fx_iconst d_MO_write_60 ?_
        exact fx_fewer [some (.ref 31), some (.int (zI x1)), some (.int (zI x2)), some (.int (zI x3)), none, none, none, none] ⟨rfl, rfl, rfl, rfl, trivial⟩ H
      · replace H := H.2 z10
        refine fx_iconst d_MO_write_56 ?_
        refine fx_goto (n := 61) d_MO_write_57 ?_
        exact fx_fewer [some (.ref 31), some (.int (zI x1)), some (.int (zI x2)), some (.int (zI x3)), none, none, none, none] ⟨rfl, rfl, rfl, rfl, trivial⟩ H
  · replace H := H.2 z6
    refine fx_iload_n (i := 3) d_MO_write_26 rfl rfl ?_
    refine fx_iconst d_MO_write_27 ?_
    obtain ⟨hz11, H⟩ := H
    refine fx_icmp_lt (t := 39) (n := 31) d_MO_write_28 hz11 (show zR 1 by decide) (fun z12 => ?_) (fun z12 => ?_)
    · replace H := H.1 z12
      refine fx_iconst d_MO_write_39 ?_
      refine fx_goto (n := 44) d_MO_write_40 ?_
      refine fx_iload d_MO_write_44 rfl ?_
      obtain ⟨hz13, H⟩ := H
      refine fx_if_eq (t := 60) (n := 49) d_MO_write_46 hz13 (fun z14 => ?_) (fun z14 => ?_)
      · replace H := H.1 z14
        refine fx_iconst d_MO_write_60 ?_
        exact fx_fewer [some (.ref 31), some (.int (zI x1)), some (.int (zI x2)), some (.int (zI x3)), none, none, none, none] ⟨rfl, rfl, rfl, rfl, trivial⟩ H
      · replace H := H.2 z14
        refine fx_aload_n (i := 0) d_MO_write_49 rfl rfl ?_
        refine fx_getI d_MO_write_50 lk_MO_97 (at_31 (h := _) hS2) rfl ?_
        obtain ⟨hz15, H⟩ := H
        refine fx_if_eq (t := 60) (n := 56) d_MO_write_53 hz15 (fun z16 => ?_) (fun z16 => ?_)
        · replace H := H.1 z16
          refine fx_iconst d_MO_write_60 ?_
          exact fx_fewer [some (.ref 31), some (.int (zI x1)), some (.int (zI x2)), some (.int (zI x3)), none, none, none, none] ⟨rfl, rfl, rfl, rfl, trivial⟩ H
        · replace H := H.2 z16
          refine fx_iconst d_MO_write_56 ?_
          refine fx_goto (n := 61) d_MO_write_57 ?_
          exact fx_fewer [some (.ref 31), some (.int (zI x1)), some (.int (zI x2)), some (.int (zI x3)), none, none, none, none] ⟨rfl, rfl, rfl, rfl, trivial⟩ H
    · replace H := H.2 z12
      refine fx_iload_n (i := 3) d_MO_write_31 rfl rfl ?_
      refine fx_aload_n (i := 0) d_MO_write_32 rfl rfl ?_
      refine fx_getI d_MO_write_33 lk_MO_13 (at_31 (h := _) hS2) rfl ?_
      obtain ⟨hz17, H⟩ := H
      refine fx_icmp_le (t := 43) (n := 39) d_MO_write_36 hz11 hz17 (fun z18 => ?_) (fun z18 => ?_)
      · replace H := H.1 z18
        refine fx_iconst d_MO_write_43 ?_
        refine fx_iload d_MO_write_44 rfl ?_
        obtain ⟨hz19, H⟩ := H
        refine fx_if_eq (t := 60) (n := 49) d_MO_write_46 hz19 (fun z20 => ?_) (fun z20 => ?_)
        · replace H := H.1 z20
          refine fx_iconst d_MO_write_60 ?_
          exact fx_fewer [some (.ref 31), some (.int (zI x1)), some (.int (zI x2)), some (.int (zI x3)), none, none, none, none] ⟨rfl, rfl, rfl, rfl, trivial⟩ H
        · replace H := H.2 z20
          refine fx_aload_n (i := 0) d_MO_write_49 rfl rfl ?_
          refine fx_getI d_MO_write_50 lk_MO_97 (at_31 (h := _) hS2) rfl ?_
          obtain ⟨hz21, H⟩ := H
          refine fx_if_eq (t := 60) (n := 56) d_MO_write_53 hz21 (fun z22 => ?_) (fun z22 => ?_)
          · replace H := H.1 z22
            refine fx_iconst d_MO_write_60 ?_
            exact fx_fewer [some (.ref 31), some (.int (zI x1)), some (.int (zI x2)), some (.int (zI x3)), none, none, none, none] ⟨rfl, rfl, rfl, rfl, trivial⟩ H
          · replace H := H.2 z22
            refine fx_iconst d_MO_write_56 ?_
            refine fx_goto (n := 61) d_MO_write_57 ?_
            exact fx_fewer [some (.ref 31), some (.int (zI x1)), some (.int (zI x2)), some (.int (zI x3)), none, none, none, none] ⟨rfl, rfl, rfl, rfl, trivial⟩ H
      · replace H := H.2 z18
        refine fx_iconst d_MO_write_39 ?_
        refine fx_goto (n := 44) d_MO_write_40 ?_
        refine fx_iload d_MO_write_44 rfl ?_
        obtain ⟨hz23, H⟩ := H
        refine fx_if_eq (t := 60) (n := 49) d_MO_write_46 hz23 (fun z24 => ?_) (fun z24 => ?_)
        · replace H := H.1 z24
          refine fx_iconst d_MO_write_60 ?_
          exact fx_fewer [some (.ref 31), some (.int (zI x1)), some (.int (zI x2)), some (.int (zI x3)), none, none, none, none] ⟨rfl, rfl, rfl, rfl, trivial⟩ H
        · replace H := H.2 z24
          refine fx_aload_n (i := 0) d_MO_write_49 rfl rfl ?_
          refine fx_getI d_MO_write_50 lk_MO_97 (at_31 (h := _) hS2) rfl ?_
          obtain ⟨hz25, H⟩ := H
          refine fx_if_eq (t := 60) (n := 56) d_MO_write_53 hz25 (fun z26 => ?_) (fun z26 => ?_)
          · replace H := H.1 z26
            refine fx_iconst d_MO_write_60 ?_
            exact fx_fewer [some (.ref 31), some (.int (zI x1)), some (.int (zI x2)), some (.int (zI x3)), none, none, none, none] ⟨rfl, rfl, rfl, rfl, trivial⟩ H
          · replace H := H.2 z26
            refine fx_iconst d_MO_write_56 ?_
            refine fx_goto (n := 61) d_MO_write_57 ?_
            exact fx_fewer [some (.ref 31), some (.int (zI x1)), some (.int (zI x2)), some (.int (zI x3)), none, none, none, none] ⟨rfl, rfl, rfl, rfl, trivial⟩ H

set_option maxRecDepth 100000 in
set_option maxHeartbeats 4000000 in
theorem w_MO_write_61 {l : Launch} {Q : Option Value → fx_H → Prop} {h : fx_H}  {x1 : Int} {x2 : Int} {x3 : Int} {y0 : Int} {y1 : Int}  {a : Nat → Nat} {pp dd : Nat} (hS : h.1 = fx_S0 a pp dd) 
    (H : fx_Mt l M_MO_refused (0, 0) [.ref 31, .int (zI y1), .int (zI y0)] h (fun v h1 => ∃ r3 : Int, v = some (.int (zI r3)) ∧ h1.1 = h.1 ∧ zR r3 ∧ ((r3 = 0 → (x2 = 0 ∨ x2 = 1) ∧ ((h1.2.1 31 1) = 0 ∨ (h1.2.1 31 1) = 1) ∧ zR x2 ∧ ((x2 = 0 → (fx_V l M_MO_write (0, 0) Q 0 0 128 [some (.ref 31), none, none, none, none, none, none, none] [.int (zI 73), .ref 31] (fx_uF (fx_uF (fx_uF (fx_uF (fx_uF (fx_uF (fx_uF h1 31 12 x1) 31 11 x2) 31 13 x3) 31 14 (h1.2.1 31 1)) 31 15 (h1.2.1 31 2)) 31 16 (h1.2.1 31 3)) 31 5 0))) ∧ (¬ (x2 = 0) → (fx_V l M_MO_write (0, 0) Q 0 0 128 [some (.ref 31), none, none, none, none, none, none, none] [.int (zI 77), .ref 31] (fx_uF (fx_uF (fx_uF (fx_uF (fx_uF (fx_uF (fx_uF h1 31 12 x1) 31 11 x2) 31 13 x3) 31 14 (h1.2.1 31 1)) 31 15 (h1.2.1 31 2)) 31 16 (h1.2.1 31 3)) 31 5 0))))) ∧ (¬ (r3 = 0) → Q (some (.int (zI 0))) h1)))) :
    fx_V l M_MO_write (0, 0) Q 0 0 61 [some (.ref 31), some (.int (zI x1)), some (.int (zI x2)), some (.int (zI x3)), none, none, none, none] [.int (zI y0), .int (zI y1), .ref 31] h := by
  refine fx_callV (M' := M_MO_refused) (B' := (0, 0)) (vs := [.int (zI y1), .int (zI y0)]) (rest := []) (c1 := 0) (s1 := 0) (n := 64) d_MO_write_61 ca_MO_write_93 (at_31 (h := _) hS) rfl rfl rfl ⟨by decide, by decide⟩ (Nat.le_of_ble_eq_true rfl) (Or.inl rfl) (fx_Mt.mono H fun v h1 hv => ?_)
  obtain ⟨r3, rfl, e2, H⟩ := hv
  have hS1 := e2.trans hS
  show fx_V l M_MO_write (0, 0) Q 0 0 64 [some (.ref 31), some (.int (zI x1)), some (.int (zI x2)), some (.int (zI x3)), none, none, none, none] [.int (zI r3)] h1
  obtain ⟨hz4, H⟩ := H
  refine fx_if_eq (t := 69) (n := 67) d_MO_write_64 hz4 (fun z5 => ?_) (fun z5 => ?_)
  · replace H := H.1 z5
    refine fx_aload_n (i := 0) d_MO_write_69 rfl rfl ?_
    refine fx_iload_n (i := 1) d_MO_write_70 rfl rfl ?_
    refine fx_putI d_MO_write_71 lk_MO_180 (at_31 (h := _) hS1) rfl rfl rfl ?_
    refine fx_aload_n (i := 0) d_MO_write_74 rfl rfl ?_
    refine fx_iload_n (i := 2) d_MO_write_75 rfl rfl ?_
    obtain ⟨hn6, H⟩ := H
    refine fx_putI d_MO_write_76 lk_MO_108 (at_31 (h := _) hS1) rfl (fx_nb hn6) (fx_fb hn6) ?_
    refine fx_aload_n (i := 0) d_MO_write_79 rfl rfl ?_
    refine fx_iload_n (i := 3) d_MO_write_80 rfl rfl ?_
    refine fx_putI d_MO_write_81 lk_MO_219 (at_31 (h := _) hS1) rfl rfl rfl ?_
    refine fx_aload_n (i := 0) d_MO_write_84 rfl rfl ?_
    refine fx_aload_n (i := 0) d_MO_write_85 rfl rfl ?_
    refine fx_getI d_MO_write_86 lk_MO_97 (at_31 (h := _) hS1) rfl ?_
    obtain ⟨hn7, H⟩ := H
    refine fx_putI d_MO_write_89 lk_MO_128 (at_31 (h := _) hS1) rfl (fx_nb hn7) (fx_fb hn7) ?_
    refine fx_aload_n (i := 0) d_MO_write_92 rfl rfl ?_
    refine fx_aload_n (i := 0) d_MO_write_93 rfl rfl ?_
    refine fx_getI d_MO_write_94 lk_MO_7 (at_31 (h := _) hS1) rfl ?_
    refine fx_putI d_MO_write_97 lk_MO_131 (at_31 (h := _) hS1) rfl rfl rfl ?_
    refine fx_aload_n (i := 0) d_MO_write_100 rfl rfl ?_
    refine fx_aload_n (i := 0) d_MO_write_101 rfl rfl ?_
    refine fx_getI d_MO_write_102 lk_MO_13 (at_31 (h := _) hS1) rfl ?_
    refine fx_putI d_MO_write_105 lk_MO_216 (at_31 (h := _) hS1) rfl rfl rfl ?_
    refine fx_aload_n (i := 0) d_MO_write_108 rfl rfl ?_
    refine fx_iconst d_MO_write_109 ?_
    refine fx_putI d_MO_write_110 lk_MO_105 (at_31 (h := _) hS1) rfl rfl rfl ?_
    refine fx_aload_n (i := 0) d_MO_write_113 rfl rfl ?_
    refine fx_aload_n (i := 0) d_MO_write_114 rfl rfl ?_
    refine fx_getI d_MO_write_115 lk_MO_108 (at_31 (h := _) hS1) rfl ?_
    obtain ⟨hz8, H⟩ := H
    refine fx_if_eq (t := 126) (n := 121) d_MO_write_118 hz8 (fun z9 => ?_) (fun z9 => ?_)
    · replace H := H.1 z9
      refine fx_bipush (v := 73) d_MO_write_126 rfl ?_
      exact fx_fewer [some (.ref 31), none, none, none, none, none, none, none] ⟨rfl, trivial⟩ H
    · replace H := H.2 z9
      refine fx_bipush (v := 77) d_MO_write_121 rfl ?_
      refine fx_goto (n := 128) d_MO_write_123 ?_
      exact fx_fewer [some (.ref 31), none, none, none, none, none, none, none] ⟨rfl, trivial⟩ H
  · replace H := H.2 z5
    refine fx_iconst d_MO_write_67 ?_
    exact fx_end (some (.int (zI 0))) ⟨⟨_, rfl, rfl⟩, d_MO_write_68⟩ (Nat.le_refl _) (Nat.le_refl _) rfl H

set_option maxRecDepth 100000 in
set_option maxHeartbeats 4000000 in
theorem w_MO_write_128 {l : Launch} {Q : Option Value → fx_H → Prop} {h : fx_H}  {y0 : Int}  {a : Nat → Nat} {pp dd : Nat} (hS : h.1 = fx_S0 a pp dd) 
    (H : fx_Mt l M_MO_out (0, 0) [.ref 31, .int (zI y0)] h (fun v h1 => v = none ∧ h1.1 = h.1 ∧ zR (h1.2.1 31 11) ∧ (((h1.2.1 31 11) = 0 → (fx_V l M_MO_write (0, 0) Q 0 0 146 [some (.ref 31), none, none, none, none, none, none, none] [.int (zI 73), .ref 31] h1)) ∧ (¬ ((h1.2.1 31 11) = 0) → (fx_V l M_MO_write (0, 0) Q 0 0 146 [some (.ref 31), none, none, none, none, none, none, none] [.int (zI 77), .ref 31] h1))))) :
    fx_V l M_MO_write (0, 0) Q 0 0 128 [some (.ref 31), none, none, none, none, none, none, none] [.int (zI y0), .ref 31] h := by
  refine fx_callV (M' := M_MO_out) (B' := (0, 0)) (vs := [.int (zI y0)]) (rest := []) (c1 := 0) (s1 := 0) (n := 131) d_MO_write_128 ca_MO_write_111 (at_31 (h := _) hS) rfl rfl rfl ⟨by decide, by decide⟩ (Nat.le_of_ble_eq_true rfl) (Or.inl rfl) (fx_Mt.mono H fun v h1 hv => ?_)
  obtain ⟨rfl, e2, H⟩ := hv
  have hS1 := e2.trans hS
  show fx_V l M_MO_write (0, 0) Q 0 0 131 [some (.ref 31), none, none, none, none, none, none, none] [] h1
  refine fx_aload_n (i := 0) d_MO_write_131 rfl rfl ?_
  refine fx_aload_n (i := 0) d_MO_write_132 rfl rfl ?_
  refine fx_getI d_MO_write_133 lk_MO_108 (at_31 (h := _) hS1) rfl ?_
  obtain ⟨hz3, H⟩ := H
  refine fx_if_eq (t := 144) (n := 139) d_MO_write_136 hz3 (fun z4 => ?_) (fun z4 => ?_)
  · replace H := H.1 z4
    refine fx_bipush (v := 73) d_MO_write_144 rfl ?_
    exact H
  · replace H := H.2 z4
    refine fx_bipush (v := 77) d_MO_write_139 rfl ?_
    refine fx_goto (n := 146) d_MO_write_141 ?_
    exact H

set_option maxRecDepth 100000 in
set_option maxHeartbeats 4000000 in
theorem w_MO_write_146 {l : Launch} {Q : Option Value → fx_H → Prop} {h : fx_H}  {y0 : Int}  {a : Nat → Nat} {pp dd : Nat} (hS : h.1 = fx_S0 a pp dd) 
    (H : fx_Mt l M_MO_out (0, 0) [.ref 31, .int (zI y0)] h (fun v h1 => v = none ∧ h1.1 = h.1 ∧ fx_Mt l M_MO_outNumber (0, 0) [.ref 31, .int (zI 42), .int (zI 2)] h1 (fun v h3 => v = none ∧ h3.1 = h1.1 ∧ fx_Mt l M_MO_outNumber (0, 0) [.ref 31, .int (zI 0), .int (zI 4)] h3 (fun v h5 => v = none ∧ h5.1 = h3.1 ∧ 0 ≤ (((h5.2.1 31 16) + (h5.2.1 31 13)) - 1) ∧ zR (((h5.2.1 31 16) + (h5.2.1 31 13)) - 1) ∧ 0 < (h5.2.1 31 13) ∧ zR (h5.2.1 31 13) ∧ (fx_V l M_MO_write (0, 0) Q 0 0 183 [some (.ref 31), none, none, none, none, some (.int (zI ((((h5.2.1 31 16) + (h5.2.1 31 13)) - 1) / (h5.2.1 31 13)))), some (.int (zI 0)), none] [] h5))))) :
    fx_V l M_MO_write (0, 0) Q 0 0 146 [some (.ref 31), none, none, none, none, none, none, none] [.int (zI y0), .ref 31] h := by
  refine fx_callV (M' := M_MO_out) (B' := (0, 0)) (vs := [.int (zI y0)]) (rest := []) (c1 := 0) (s1 := 0) (n := 149) d_MO_write_146 ca_MO_write_111 (at_31 (h := _) hS) rfl rfl rfl ⟨by decide, by decide⟩ (Nat.le_of_ble_eq_true rfl) (Or.inl rfl) (fx_Mt.mono H fun v h1 hv => ?_)
  obtain ⟨rfl, e2, H⟩ := hv
  have hS1 := e2.trans hS
  show fx_V l M_MO_write (0, 0) Q 0 0 149 [some (.ref 31), none, none, none, none, none, none, none] [] h1
  refine fx_aload_n (i := 0) d_MO_write_149 rfl rfl ?_
  refine fx_bipush (v := 42) d_MO_write_150 rfl ?_
  refine fx_iconst d_MO_write_152 ?_
  refine fx_callV (M' := M_MO_outNumber) (B' := (0, 0)) (vs := [.int (zI 42), .int (zI 2)]) (rest := []) (c1 := 0) (s1 := 0) (n := 156) d_MO_write_153 ca_MO_write_209 (at_31 (h := _) hS1) rfl rfl rfl ⟨by decide, by decide⟩ (Nat.le_of_ble_eq_true rfl) (Or.inl rfl) (fx_Mt.mono H fun v h3 hv => ?_)
  obtain ⟨rfl, e4, H⟩ := hv
  have hS3 := e4.trans hS1
  show fx_V l M_MO_write (0, 0) Q 0 0 156 [some (.ref 31), none, none, none, none, none, none, none] [] h3
  refine fx_aload_n (i := 0) d_MO_write_156 rfl rfl ?_
  refine fx_iconst d_MO_write_157 ?_
  refine fx_iconst d_MO_write_158 ?_
  refine fx_callV (M' := M_MO_outNumber) (B' := (0, 0)) (vs := [.int (zI 0), .int (zI 4)]) (rest := []) (c1 := 0) (s1 := 0) (n := 162) d_MO_write_159 ca_MO_write_209 (at_31 (h := _) hS3) rfl rfl rfl ⟨by decide, by decide⟩ (Nat.le_of_ble_eq_true rfl) (Or.inl rfl) (fx_Mt.mono H fun v h5 hv => ?_)
  obtain ⟨rfl, e6, H⟩ := hv
  have hS5 := e6.trans hS3
  show fx_V l M_MO_write (0, 0) Q 0 0 162 [some (.ref 31), none, none, none, none, none, none, none] [] h5
  refine fx_aload_n (i := 0) d_MO_write_162 rfl rfl ?_
  refine fx_getI d_MO_write_163 lk_MO_216 (at_31 (h := _) hS5) rfl ?_
  refine fx_aload_n (i := 0) d_MO_write_166 rfl rfl ?_
  refine fx_getI d_MO_write_167 lk_MO_219 (at_31 (h := _) hS5) rfl ?_
  refine fx_iadd d_MO_write_170 ?_
  refine fx_iconst d_MO_write_171 ?_
  refine fx_isub d_MO_write_172 ?_
  refine fx_aload_n (i := 0) d_MO_write_173 rfl rfl ?_
  refine fx_getI d_MO_write_174 lk_MO_219 (at_31 (h := _) hS5) rfl ?_
  obtain ⟨hn7, H⟩ := H
  obtain ⟨hz8, H⟩ := H
  obtain ⟨hn9, H⟩ := H
  obtain ⟨hz10, H⟩ := H
  refine fx_idiv d_MO_write_177 hn7 hz8 hn9 hz10 ?_
  refine fx_istore (ls2 := [some (.ref 31), none, none, none, none, some (.int (zI ((((h5.2.1 31 16) + (h5.2.1 31 13)) - 1) / (h5.2.1 31 13)))), none, none]) d_MO_write_178 (by decide) rfl ?_
  refine fx_iconst d_MO_write_180 ?_
  refine fx_istore (ls2 := [some (.ref 31), none, none, none, none, some (.int (zI ((((h5.2.1 31 16) + (h5.2.1 31 13)) - 1) / (h5.2.1 31 13)))), some (.int (zI 0)), none]) d_MO_write_181 (by decide) rfl ?_
  exact H

set_option maxRecDepth 100000 in
set_option maxHeartbeats 4000000 in
theorem w_MO_write_183 {l : Launch} {Q : Option Value → fx_H → Prop} {h : fx_H}  {x5 : Int} {x6 : Int}  {a : Nat → Nat} {pp dd : Nat} (hS : h.1 = fx_S0 a pp dd) 
    (H : zR x6 ∧ zR x5 ∧ ((x5 ≤ x6 → (fx_V l M_MO_write (0, 0) Q 0 0 259 [some (.ref 31), none, none, none, none, some (.int (zI x5)), some (.int (zI (h.2.1 31 5))), some (.int (zI 0))] [] h)) ∧ (¬ (x5 ≤ x6) → 0 ≤ x6 ∧ x6 < 24 ∧ fx_Mt l M_MO_rowsOf (0, 0) [.int (zI x6), .int (zI (h.2.1 31 16)), .int (zI (h.2.1 31 13))] (fx_uA h 41 (x6.toNat) (h.2.1 31 5)) (fun v h6 => ∃ r8 : Int, v = some (.int (zI r8)) ∧ h6.1 = (fx_uA h 41 (x6.toNat) (h.2.1 31 5)).1 ∧ fx_Mt l M_MO_outStrip (0, 0) [.ref 31, .int (zI (x6 * (h.2.1 31 13))), .int (zI r8)] h6 (fun v h9 => v = none ∧ h9.1 = h6.1 ∧ 0 ≤ x6 ∧ x6 < 24 ∧ 0 ≤ x6 ∧ x6 < 24 ∧ (fx_V l M_MO_write (0, 0) Q 0 0 183 [some (.ref 31), none, none, none, none, some (.int (zI x5)), some (.int (zI (x6 + 1))), none] [] (fx_uA h9 42 (x6.toNat) ((h9.2.1 31 5) - (h9.2.2.1 41 (x6.toNat)))))))))) :
    fx_V l M_MO_write (0, 0) Q 0 0 183 [some (.ref 31), none, none, none, none, some (.int (zI x5)), some (.int (zI x6)), none] [] h := by
  refine fx_iload d_MO_write_183 rfl ?_
  refine fx_iload d_MO_write_185 rfl ?_
  obtain ⟨hz1, H⟩ := H
  obtain ⟨hz2, H⟩ := H
  refine fx_icmp_ge (t := 250) (n := 190) d_MO_write_187 hz1 hz2 (fun z3 => ?_) (fun z3 => ?_)
  · replace H := H.1 z3
    refine fx_aload_n (i := 0) d_MO_write_250 rfl rfl ?_
    refine fx_getI d_MO_write_251 lk_MO_105 (at_31 (h := _) hS) rfl ?_
    refine fx_istore (ls2 := [some (.ref 31), none, none, none, none, some (.int (zI x5)), some (.int (zI (h.2.1 31 5))), none]) d_MO_write_254 (by decide) rfl ?_
    refine fx_iconst d_MO_write_256 ?_
    refine fx_istore (ls2 := [some (.ref 31), none, none, none, none, some (.int (zI x5)), some (.int (zI (h.2.1 31 5))), some (.int (zI 0))]) d_MO_write_257 (by decide) rfl ?_
    exact H
  · replace H := H.2 z3
    refine fx_aload_n (i := 0) d_MO_write_190 rfl rfl ?_
    refine fx_getR (q := 41) d_MO_write_191 lk_MO_56 (at_31 (h := _) hS) rfl rfl ?_
    refine fx_iload d_MO_write_194 rfl ?_
    refine fx_aload_n (i := 0) d_MO_write_196 rfl rfl ?_
    refine fx_getI d_MO_write_197 lk_MO_105 (at_31 (h := _) hS) rfl ?_
    obtain ⟨hn4, H⟩ := H
    obtain ⟨hn5, H⟩ := H
    refine fx_iast d_MO_write_200 (at_41 (h := _) hS) hn4 hn5 (by decide) ?_
    refine fx_aload_n (i := 0) d_MO_write_201 rfl rfl ?_
    refine fx_iload d_MO_write_202 rfl ?_
    refine fx_aload_n (i := 0) d_MO_write_204 rfl rfl ?_
    refine fx_getI d_MO_write_205 lk_MO_219 (at_31 (h := _) hS) rfl ?_
    refine fx_imul d_MO_write_208 ?_
    refine fx_iload d_MO_write_209 rfl ?_
    refine fx_aload_n (i := 0) d_MO_write_211 rfl rfl ?_
    refine fx_getI d_MO_write_212 lk_MO_216 (at_31 (h := _) hS) rfl ?_
    refine fx_aload_n (i := 0) d_MO_write_215 rfl rfl ?_
    refine fx_getI d_MO_write_216 lk_MO_219 (at_31 (h := _) hS) rfl ?_
    refine fx_callS (M' := M_MO_rowsOf) (B' := (0, 0)) (vs := [.int (zI x6), .int (zI (h.2.1 31 16)), .int (zI (h.2.1 31 13))]) (rest := [.int (zI (x6 * (h.2.1 31 13))), .ref 31]) (c1 := 0) (s1 := 0) (n := 222) d_MO_write_219 ca_MO_write_226 rfl rfl ⟨by decide, by decide⟩ (Nat.le_of_ble_eq_true rfl) (Or.inl rfl) (fx_Mt.mono H fun v h6 hv => ?_)
    obtain ⟨r8, rfl, e7, H⟩ := hv
    have hS6 := e7.trans hS
    show fx_V l M_MO_write (0, 0) Q 0 0 222 [some (.ref 31), none, none, none, none, some (.int (zI x5)), some (.int (zI x6)), none] [.int (zI r8), .int (zI (x6 * (h.2.1 31 13))), .ref 31] h6
    refine fx_callV (M' := M_MO_outStrip) (B' := (0, 0)) (vs := [.int (zI (x6 * (h.2.1 31 13))), .int (zI r8)]) (rest := []) (c1 := 0) (s1 := 0) (n := 225) d_MO_write_222 ca_MO_write_230 (at_31 (h := _) hS6) rfl rfl rfl ⟨by decide, by decide⟩ (Nat.le_of_ble_eq_true rfl) (Or.inl rfl) (fx_Mt.mono H fun v h9 hv => ?_)
    obtain ⟨rfl, e10, H⟩ := hv
    have hS9 := e10.trans hS6
    show fx_V l M_MO_write (0, 0) Q 0 0 225 [some (.ref 31), none, none, none, none, some (.int (zI x5)), some (.int (zI x6)), none] [] h9
    refine fx_aload_n (i := 0) d_MO_write_225 rfl rfl ?_
    refine fx_getR (q := 42) d_MO_write_226 lk_MO_59 (at_31 (h := _) hS9) rfl rfl ?_
    refine fx_iload d_MO_write_229 rfl ?_
    refine fx_aload_n (i := 0) d_MO_write_231 rfl rfl ?_
    refine fx_getI d_MO_write_232 lk_MO_105 (at_31 (h := _) hS9) rfl ?_
    refine fx_aload_n (i := 0) d_MO_write_235 rfl rfl ?_
    refine fx_getR (q := 41) d_MO_write_236 lk_MO_56 (at_31 (h := _) hS9) rfl rfl ?_
    refine fx_iload d_MO_write_239 rfl ?_
    obtain ⟨hn11, H⟩ := H
    obtain ⟨hn12, H⟩ := H
    refine fx_iald d_MO_write_241 (at_41 (h := _) hS9) hn11 hn12 (by decide) ?_
    refine fx_isub d_MO_write_242 ?_
    obtain ⟨hn13, H⟩ := H
    obtain ⟨hn14, H⟩ := H
    refine fx_iast d_MO_write_243 (at_42 (h := _) hS9) hn13 hn14 (by decide) ?_
    refine fx_iinc (v := x6 + 1) (ls2 := [some (.ref 31), none, none, none, none, some (.int (zI x5)), some (.int (zI (x6 + 1))), none]) d_MO_write_244 rfl rfl (by decide) rfl ?_
    refine fx_goto (n := 183) d_MO_write_247 ?_
    exact H

set_option maxRecDepth 100000 in
set_option maxHeartbeats 4000000 in
theorem w_MO_write_259 {l : Launch} {Q : Option Value → fx_H → Prop} {h : fx_H}  {x5 : Int} {x6 : Int} {x7 : Int}  {a : Nat → Nat} {pp dd : Nat} (hS : h.1 = fx_S0 a pp dd) 
    (H : zR x7 ∧ zR (2 * x5) ∧ (((2 * x5) ≤ x7 → 0 ≤ (h.2.1 31 5) ∧ zR (h.2.1 31 5) ∧ zR ((h.2.1 31 5) % 2) ∧ ((¬ ((h.2.1 31 5) % 2) = 1 → fx_Mt l M_MO_outNumber (0, 0) [.ref 31, .int (zI (h.2.1 31 5)), .int (zI 4)] (fx_uF h 31 5 4) (fun v h8 => v = none ∧ h8.1 = (fx_uF h 31 5 4).1 ∧ fx_Mt l M_MO_outTags (0, 0) [.ref 31, .int (zI x5), .int (zI x6)] (fx_uF h8 31 5 (h.2.1 31 5)) (fun v h10 => v = none ∧ h10.1 = (fx_uF h8 31 5 (h.2.1 31 5)).1 ∧ fx_Mt l M_MO_note (0, 0) [.ref 31, .int (zI x5)] h10 (fun v h12 => v = none ∧ h12.1 = h10.1 ∧ Q (some (.int (zI (h12.2.1 31 5)))) h12)))) ∧ (((h.2.1 31 5) % 2) = 1 → fx_Mt l M_MO_out (0, 0) [.ref 31, .int (zI 0)] h (fun v h14 => v = none ∧ h14.1 = h.1 ∧ (fx_V l M_MO_write (0, 0) Q 0 0 327 [some (.ref 31), none, none, none, none, some (.int (zI x5)), some (.int (zI x6)), none] [] h14))))) ∧ (¬ ((2 * x5) ≤ x7) → zR x5 ∧ ((x5 ≤ 1 → 0 ≤ (h.2.1 31 5) ∧ zR (h.2.1 31 5) ∧ zR ((h.2.1 31 5) % 2) ∧ ((¬ ((h.2.1 31 5) % 2) = 1 → fx_Mt l M_MO_outNumber (0, 0) [.ref 31, .int (zI (h.2.1 31 5)), .int (zI 4)] (fx_uF h 31 5 4) (fun v h22 => v = none ∧ h22.1 = (fx_uF h 31 5 4).1 ∧ fx_Mt l M_MO_outTags (0, 0) [.ref 31, .int (zI x5), .int (zI x6)] (fx_uF h22 31 5 (h.2.1 31 5)) (fun v h24 => v = none ∧ h24.1 = (fx_uF h22 31 5 (h.2.1 31 5)).1 ∧ fx_Mt l M_MO_note (0, 0) [.ref 31, .int (zI x5)] h24 (fun v h26 => v = none ∧ h26.1 = h24.1 ∧ Q (some (.int (zI (h26.2.1 31 5)))) h26)))) ∧ (((h.2.1 31 5) % 2) = 1 → fx_Mt l M_MO_out (0, 0) [.ref 31, .int (zI 0)] h (fun v h28 => v = none ∧ h28.1 = h.1 ∧ (fx_V l M_MO_write (0, 0) Q 0 0 327 [some (.ref 31), none, none, none, none, some (.int (zI x5)), some (.int (zI x6)), none] [] h28))))) ∧ (¬ (x5 ≤ 1) → ((x5 ≤ x7 → 0 ≤ (x7 - x5) ∧ (x7 - x5) < 24 ∧ (fx_V l M_MO_write (0, 0) Q 0 0 302 [some (.ref 31), none, none, none, none, some (.int (zI x5)), some (.int (zI x6)), some (.int (zI x7))] [.int (zI (h.2.2.1 42 ((x7 - x5).toNat))), .ref 31] h)) ∧ (¬ (x5 ≤ x7) → 0 ≤ x7 ∧ x7 < 24 ∧ (fx_V l M_MO_write (0, 0) Q 0 0 302 [some (.ref 31), none, none, none, none, some (.int (zI x5)), some (.int (zI x6)), some (.int (zI x7))] [.int (zI (h.2.2.1 41 (x7.toNat))), .ref 31] h)))))))) :
    fx_V l M_MO_write (0, 0) Q 0 0 259 [some (.ref 31), none, none, none, none, some (.int (zI x5)), some (.int (zI x6)), some (.int (zI x7))] [] h := by
  refine fx_iload d_MO_write_259 rfl ?_
  refine fx_iconst d_MO_write_261 ?_
  refine fx_iload d_MO_write_262 rfl ?_
  refine fx_imul d_MO_write_264 ?_
  obtain ⟨hz1, H⟩ := H
  obtain ⟨hz2, H⟩ := H
  refine fx_icmp_ge (t := 312) (n := 268) d_MO_write_265 hz1 hz2 (fun z3 => ?_) (fun z3 => ?_)
  · replace H := H.1 z3
    refine fx_aload_n (i := 0) d_MO_write_312 rfl rfl ?_
    refine fx_getI d_MO_write_313 lk_MO_105 (at_31 (h := _) hS) rfl ?_
    refine fx_iconst d_MO_write_316 ?_
    obtain ⟨hn4, H⟩ := H
    obtain ⟨hz5, H⟩ := H
    refine fx_irem d_MO_write_317 hn4 hz5 (show (0 : Int) < 2 by decide) (show zR 2 by decide) ?_
    refine fx_iconst d_MO_write_318 ?_
    obtain ⟨hz6, H⟩ := H
    refine fx_icmp_ne (t := 327) (n := 322) d_MO_write_319 hz6 (show zR 1 by decide) (fun z7 => ?_) (fun z7 => ?_)
    · replace H := H.1 z7
      refine fx_aload_n (i := 0) d_MO_write_327 rfl rfl ?_
      refine fx_getI d_MO_write_328 lk_MO_105 (at_31 (h := _) hS) rfl ?_
      refine fx_istore (ls2 := [some (.ref 31), none, none, none, none, some (.int (zI x5)), some (.int (zI x6)), some (.int (zI (h.2.1 31 5)))]) d_MO_write_331 (by decide) rfl ?_
      refine fx_aload_n (i := 0) d_MO_write_333 rfl rfl ?_
      refine fx_iconst d_MO_write_334 ?_
      refine fx_putI d_MO_write_335 lk_MO_105 (at_31 (h := _) hS) rfl rfl rfl ?_
      refine fx_aload_n (i := 0) d_MO_write_338 rfl rfl ?_
      refine fx_iload d_MO_write_339 rfl ?_
      refine fx_iconst d_MO_write_341 ?_
      refine fx_callV (M' := M_MO_outNumber) (B' := (0, 0)) (vs := [.int (zI (h.2.1 31 5)), .int (zI 4)]) (rest := []) (c1 := 0) (s1 := 0) (n := 345) d_MO_write_342 ca_MO_write_209 (at_31 (h := _) hS) rfl rfl rfl ⟨by decide, by decide⟩ (Nat.le_of_ble_eq_true rfl) (Or.inl rfl) (fx_Mt.mono H fun v h8 hv => ?_)
      obtain ⟨rfl, e9, H⟩ := hv
      have hS8 := e9.trans hS
      show fx_V l M_MO_write (0, 0) Q 0 0 345 [some (.ref 31), none, none, none, none, some (.int (zI x5)), some (.int (zI x6)), some (.int (zI (h.2.1 31 5)))] [] h8
      refine fx_aload_n (i := 0) d_MO_write_345 rfl rfl ?_
      refine fx_iload d_MO_write_346 rfl ?_
      refine fx_putI d_MO_write_348 lk_MO_105 (at_31 (h := _) hS8) rfl rfl rfl ?_
      refine fx_aload_n (i := 0) d_MO_write_351 rfl rfl ?_
      refine fx_iload d_MO_write_352 rfl ?_
      refine fx_iload d_MO_write_354 rfl ?_
      refine fx_callV (M' := M_MO_outTags) (B' := (0, 0)) (vs := [.int (zI x5), .int (zI x6)]) (rest := []) (c1 := 0) (s1 := 0) (n := 359) d_MO_write_356 ca_MO_write_233 (at_31 (h := _) hS8) rfl rfl rfl ⟨by decide, by decide⟩ (Nat.le_of_ble_eq_true rfl) (Or.inl rfl) (fx_Mt.mono H fun v h10 hv => ?_)
      obtain ⟨rfl, e11, H⟩ := hv
      have hS10 := e11.trans hS8
      show fx_V l M_MO_write (0, 0) Q 0 0 359 [some (.ref 31), none, none, none, none, some (.int (zI x5)), some (.int (zI x6)), some (.int (zI (h.2.1 31 5)))] [] h10
      refine fx_aload_n (i := 0) d_MO_write_359 rfl rfl ?_
      refine fx_iload d_MO_write_360 rfl ?_
      refine fx_callV (M' := M_MO_note) (B' := (0, 0)) (vs := [.int (zI x5)]) (rest := []) (c1 := 0) (s1 := 0) (n := 365) d_MO_write_362 ca_MO_write_236 (at_31 (h := _) hS10) rfl rfl rfl ⟨by decide, by decide⟩ (Nat.le_of_ble_eq_true rfl) (Or.inl rfl) (fx_Mt.mono H fun v h12 hv => ?_)
      obtain ⟨rfl, e13, H⟩ := hv
      have hS12 := e13.trans hS10
      show fx_V l M_MO_write (0, 0) Q 0 0 365 [some (.ref 31), none, none, none, none, some (.int (zI x5)), some (.int (zI x6)), some (.int (zI (h.2.1 31 5)))] [] h12
      refine fx_aload_n (i := 0) d_MO_write_365 rfl rfl ?_
      refine fx_getI d_MO_write_366 lk_MO_105 (at_31 (h := _) hS12) rfl ?_
      exact fx_end (some (.int (zI (h12.2.1 31 5)))) ⟨⟨_, rfl, rfl⟩, d_MO_write_369⟩ (Nat.le_refl _) (Nat.le_refl _) rfl H
    · replace H := H.2 z7
      refine fx_aload_n (i := 0) d_MO_write_322 rfl rfl ?_
      refine fx_iconst d_MO_write_323 ?_
      refine fx_callV (M' := M_MO_out) (B' := (0, 0)) (vs := [.int (zI 0)]) (rest := []) (c1 := 0) (s1 := 0) (n := 327) d_MO_write_324 ca_MO_write_111 (at_31 (h := _) hS) rfl rfl rfl ⟨by decide, by decide⟩ (Nat.le_of_ble_eq_true rfl) (Or.inl rfl) (fx_Mt.mono H fun v h14 hv => ?_)
      obtain ⟨rfl, e15, H⟩ := hv
      have hS14 := e15.trans hS
      show fx_V l M_MO_write (0, 0) Q 0 0 327 [some (.ref 31), none, none, none, none, some (.int (zI x5)), some (.int (zI x6)), some (.int (zI x7))] [] h14
      exact fx_fewer [some (.ref 31), none, none, none, none, some (.int (zI x5)), some (.int (zI x6)), none] ⟨rfl, rfl, rfl, trivial⟩ H
  · replace H := H.2 z3
    refine fx_iload d_MO_write_268 rfl ?_
    refine fx_iconst d_MO_write_270 ?_
    obtain ⟨hz16, H⟩ := H
    refine fx_icmp_le (t := 312) (n := 274) d_MO_write_271 hz16 (show zR 1 by decide) (fun z17 => ?_) (fun z17 => ?_)
    · replace H := H.1 z17
      refine fx_aload_n (i := 0) d_MO_write_312 rfl rfl ?_
      refine fx_getI d_MO_write_313 lk_MO_105 (at_31 (h := _) hS) rfl ?_
      refine fx_iconst d_MO_write_316 ?_
      obtain ⟨hn18, H⟩ := H
      obtain ⟨hz19, H⟩ := H
      refine fx_irem d_MO_write_317 hn18 hz19 (show (0 : Int) < 2 by decide) (show zR 2 by decide) ?_
      refine fx_iconst d_MO_write_318 ?_
      obtain ⟨hz20, H⟩ := H
      refine fx_icmp_ne (t := 327) (n := 322) d_MO_write_319 hz20 (show zR 1 by decide) (fun z21 => ?_) (fun z21 => ?_)
      · replace H := H.1 z21
        refine fx_aload_n (i := 0) d_MO_write_327 rfl rfl ?_
        refine fx_getI d_MO_write_328 lk_MO_105 (at_31 (h := _) hS) rfl ?_
        refine fx_istore (ls2 := [some (.ref 31), none, none, none, none, some (.int (zI x5)), some (.int (zI x6)), some (.int (zI (h.2.1 31 5)))]) d_MO_write_331 (by decide) rfl ?_
        refine fx_aload_n (i := 0) d_MO_write_333 rfl rfl ?_
        refine fx_iconst d_MO_write_334 ?_
        refine fx_putI d_MO_write_335 lk_MO_105 (at_31 (h := _) hS) rfl rfl rfl ?_
        refine fx_aload_n (i := 0) d_MO_write_338 rfl rfl ?_
        refine fx_iload d_MO_write_339 rfl ?_
        refine fx_iconst d_MO_write_341 ?_
        refine fx_callV (M' := M_MO_outNumber) (B' := (0, 0)) (vs := [.int (zI (h.2.1 31 5)), .int (zI 4)]) (rest := []) (c1 := 0) (s1 := 0) (n := 345) d_MO_write_342 ca_MO_write_209 (at_31 (h := _) hS) rfl rfl rfl ⟨by decide, by decide⟩ (Nat.le_of_ble_eq_true rfl) (Or.inl rfl) (fx_Mt.mono H fun v h22 hv => ?_)
        obtain ⟨rfl, e23, H⟩ := hv
        have hS22 := e23.trans hS
        show fx_V l M_MO_write (0, 0) Q 0 0 345 [some (.ref 31), none, none, none, none, some (.int (zI x5)), some (.int (zI x6)), some (.int (zI (h.2.1 31 5)))] [] h22
        refine fx_aload_n (i := 0) d_MO_write_345 rfl rfl ?_
        refine fx_iload d_MO_write_346 rfl ?_
        refine fx_putI d_MO_write_348 lk_MO_105 (at_31 (h := _) hS22) rfl rfl rfl ?_
        refine fx_aload_n (i := 0) d_MO_write_351 rfl rfl ?_
        refine fx_iload d_MO_write_352 rfl ?_
        refine fx_iload d_MO_write_354 rfl ?_
        refine fx_callV (M' := M_MO_outTags) (B' := (0, 0)) (vs := [.int (zI x5), .int (zI x6)]) (rest := []) (c1 := 0) (s1 := 0) (n := 359) d_MO_write_356 ca_MO_write_233 (at_31 (h := _) hS22) rfl rfl rfl ⟨by decide, by decide⟩ (Nat.le_of_ble_eq_true rfl) (Or.inl rfl) (fx_Mt.mono H fun v h24 hv => ?_)
        obtain ⟨rfl, e25, H⟩ := hv
        have hS24 := e25.trans hS22
        show fx_V l M_MO_write (0, 0) Q 0 0 359 [some (.ref 31), none, none, none, none, some (.int (zI x5)), some (.int (zI x6)), some (.int (zI (h.2.1 31 5)))] [] h24
        refine fx_aload_n (i := 0) d_MO_write_359 rfl rfl ?_
        refine fx_iload d_MO_write_360 rfl ?_
        refine fx_callV (M' := M_MO_note) (B' := (0, 0)) (vs := [.int (zI x5)]) (rest := []) (c1 := 0) (s1 := 0) (n := 365) d_MO_write_362 ca_MO_write_236 (at_31 (h := _) hS24) rfl rfl rfl ⟨by decide, by decide⟩ (Nat.le_of_ble_eq_true rfl) (Or.inl rfl) (fx_Mt.mono H fun v h26 hv => ?_)
        obtain ⟨rfl, e27, H⟩ := hv
        have hS26 := e27.trans hS24
        show fx_V l M_MO_write (0, 0) Q 0 0 365 [some (.ref 31), none, none, none, none, some (.int (zI x5)), some (.int (zI x6)), some (.int (zI (h.2.1 31 5)))] [] h26
        refine fx_aload_n (i := 0) d_MO_write_365 rfl rfl ?_
        refine fx_getI d_MO_write_366 lk_MO_105 (at_31 (h := _) hS26) rfl ?_
        exact fx_end (some (.int (zI (h26.2.1 31 5)))) ⟨⟨_, rfl, rfl⟩, d_MO_write_369⟩ (Nat.le_refl _) (Nat.le_refl _) rfl H
      · replace H := H.2 z21
        refine fx_aload_n (i := 0) d_MO_write_322 rfl rfl ?_
        refine fx_iconst d_MO_write_323 ?_
        refine fx_callV (M' := M_MO_out) (B' := (0, 0)) (vs := [.int (zI 0)]) (rest := []) (c1 := 0) (s1 := 0) (n := 327) d_MO_write_324 ca_MO_write_111 (at_31 (h := _) hS) rfl rfl rfl ⟨by decide, by decide⟩ (Nat.le_of_ble_eq_true rfl) (Or.inl rfl) (fx_Mt.mono H fun v h28 hv => ?_)
        obtain ⟨rfl, e29, H⟩ := hv
        have hS28 := e29.trans hS
        show fx_V l M_MO_write (0, 0) Q 0 0 327 [some (.ref 31), none, none, none, none, some (.int (zI x5)), some (.int (zI x6)), some (.int (zI x7))] [] h28
        exact fx_fewer [some (.ref 31), none, none, none, none, some (.int (zI x5)), some (.int (zI x6)), none] ⟨rfl, rfl, rfl, trivial⟩ H
    · replace H := H.2 z17
      refine fx_aload_n (i := 0) d_MO_write_274 rfl rfl ?_
      refine fx_iload d_MO_write_275 rfl ?_
      refine fx_iload d_MO_write_277 rfl ?_
      refine fx_icmp_ge (t := 292) (n := 282) d_MO_write_279 hz1 hz16 (fun z30 => ?_) (fun z30 => ?_)
      · replace H := H.1 z30
        refine fx_aload_n (i := 0) d_MO_write_292 rfl rfl ?_
        refine fx_getR (q := 42) d_MO_write_293 lk_MO_59 (at_31 (h := _) hS) rfl rfl ?_
        refine fx_iload d_MO_write_296 rfl ?_
        refine fx_iload d_MO_write_298 rfl ?_
        refine fx_isub d_MO_write_300 ?_
        obtain ⟨hn31, H⟩ := H
        obtain ⟨hn32, H⟩ := H
        refine fx_iald d_MO_write_301 (at_42 (h := _) hS) hn31 hn32 (by decide) ?_
        exact H
      · replace H := H.2 z30
        refine fx_aload_n (i := 0) d_MO_write_282 rfl rfl ?_
        refine fx_getR (q := 41) d_MO_write_283 lk_MO_56 (at_31 (h := _) hS) rfl rfl ?_
        refine fx_iload d_MO_write_286 rfl ?_
        obtain ⟨hn33, H⟩ := H
        obtain ⟨hn34, H⟩ := H
        refine fx_iald d_MO_write_288 (at_41 (h := _) hS) hn33 hn34 (by decide) ?_
        refine fx_goto (n := 302) d_MO_write_289 ?_
        exact H

set_option maxRecDepth 100000 in
set_option maxHeartbeats 4000000 in
theorem w_MO_write_302 {l : Launch} {Q : Option Value → fx_H → Prop} {h : fx_H}  {x5 : Int} {x6 : Int} {x7 : Int} {y0 : Int}  {a : Nat → Nat} {pp dd : Nat} (hS : h.1 = fx_S0 a pp dd) 
    (H : fx_Mt l M_MO_outNumber (0, 0) [.ref 31, .int (zI y0), .int (zI 4)] h (fun v h1 => v = none ∧ h1.1 = h.1 ∧ (fx_V l M_MO_write (0, 0) Q 0 0 259 [some (.ref 31), none, none, none, none, some (.int (zI x5)), some (.int (zI x6)), some (.int (zI (x7 + 1)))] [] h1))) :
    fx_V l M_MO_write (0, 0) Q 0 0 302 [some (.ref 31), none, none, none, none, some (.int (zI x5)), some (.int (zI x6)), some (.int (zI x7))] [.int (zI y0), .ref 31] h := by
  refine fx_iconst d_MO_write_302 ?_
  refine fx_callV (M' := M_MO_outNumber) (B' := (0, 0)) (vs := [.int (zI y0), .int (zI 4)]) (rest := []) (c1 := 0) (s1 := 0) (n := 306) d_MO_write_303 ca_MO_write_209 (at_31 (h := _) hS) rfl rfl rfl ⟨by decide, by decide⟩ (Nat.le_of_ble_eq_true rfl) (Or.inl rfl) (fx_Mt.mono H fun v h1 hv => ?_)
  obtain ⟨rfl, e2, H⟩ := hv
  have hS1 := e2.trans hS
  show fx_V l M_MO_write (0, 0) Q 0 0 306 [some (.ref 31), none, none, none, none, some (.int (zI x5)), some (.int (zI x6)), some (.int (zI x7))] [] h1
  refine fx_iinc (v := x7 + 1) (ls2 := [some (.ref 31), none, none, none, none, some (.int (zI x5)), some (.int (zI x6)), some (.int (zI (x7 + 1)))]) d_MO_write_306 rfl rfl (by decide) rfl ?_
  refine fx_goto (n := 259) d_MO_write_309 ?_
  exact H

set_option maxRecDepth 100000 in
set_option maxHeartbeats 4000000 in
theorem w_MO_write_327 {l : Launch} {Q : Option Value → fx_H → Prop} {h : fx_H}  {x5 : Int} {x6 : Int}  {a : Nat → Nat} {pp dd : Nat} (hS : h.1 = fx_S0 a pp dd) 
    (H : fx_Mt l M_MO_outNumber (0, 0) [.ref 31, .int (zI (h.2.1 31 5)), .int (zI 4)] (fx_uF h 31 5 4) (fun v h1 => v = none ∧ h1.1 = (fx_uF h 31 5 4).1 ∧ fx_Mt l M_MO_outTags (0, 0) [.ref 31, .int (zI x5), .int (zI x6)] (fx_uF h1 31 5 (h.2.1 31 5)) (fun v h3 => v = none ∧ h3.1 = (fx_uF h1 31 5 (h.2.1 31 5)).1 ∧ fx_Mt l M_MO_note (0, 0) [.ref 31, .int (zI x5)] h3 (fun v h5 => v = none ∧ h5.1 = h3.1 ∧ Q (some (.int (zI (h5.2.1 31 5)))) h5)))) :
    fx_V l M_MO_write (0, 0) Q 0 0 327 [some (.ref 31), none, none, none, none, some (.int (zI x5)), some (.int (zI x6)), none] [] h := by
  refine fx_aload_n (i := 0) d_MO_write_327 rfl rfl ?_
  refine fx_getI d_MO_write_328 lk_MO_105 (at_31 (h := _) hS) rfl ?_
  refine fx_istore (ls2 := [some (.ref 31), none, none, none, none, some (.int (zI x5)), some (.int (zI x6)), some (.int (zI (h.2.1 31 5)))]) d_MO_write_331 (by decide) rfl ?_
  refine fx_aload_n (i := 0) d_MO_write_333 rfl rfl ?_
  refine fx_iconst d_MO_write_334 ?_
  refine fx_putI d_MO_write_335 lk_MO_105 (at_31 (h := _) hS) rfl rfl rfl ?_
  refine fx_aload_n (i := 0) d_MO_write_338 rfl rfl ?_
  refine fx_iload d_MO_write_339 rfl ?_
  refine fx_iconst d_MO_write_341 ?_
  refine fx_callV (M' := M_MO_outNumber) (B' := (0, 0)) (vs := [.int (zI (h.2.1 31 5)), .int (zI 4)]) (rest := []) (c1 := 0) (s1 := 0) (n := 345) d_MO_write_342 ca_MO_write_209 (at_31 (h := _) hS) rfl rfl rfl ⟨by decide, by decide⟩ (Nat.le_of_ble_eq_true rfl) (Or.inl rfl) (fx_Mt.mono H fun v h1 hv => ?_)
  obtain ⟨rfl, e2, H⟩ := hv
  have hS1 := e2.trans hS
  show fx_V l M_MO_write (0, 0) Q 0 0 345 [some (.ref 31), none, none, none, none, some (.int (zI x5)), some (.int (zI x6)), some (.int (zI (h.2.1 31 5)))] [] h1
  refine fx_aload_n (i := 0) d_MO_write_345 rfl rfl ?_
  refine fx_iload d_MO_write_346 rfl ?_
  refine fx_putI d_MO_write_348 lk_MO_105 (at_31 (h := _) hS1) rfl rfl rfl ?_
  refine fx_aload_n (i := 0) d_MO_write_351 rfl rfl ?_
  refine fx_iload d_MO_write_352 rfl ?_
  refine fx_iload d_MO_write_354 rfl ?_
  refine fx_callV (M' := M_MO_outTags) (B' := (0, 0)) (vs := [.int (zI x5), .int (zI x6)]) (rest := []) (c1 := 0) (s1 := 0) (n := 359) d_MO_write_356 ca_MO_write_233 (at_31 (h := _) hS1) rfl rfl rfl ⟨by decide, by decide⟩ (Nat.le_of_ble_eq_true rfl) (Or.inl rfl) (fx_Mt.mono H fun v h3 hv => ?_)
  obtain ⟨rfl, e4, H⟩ := hv
  have hS3 := e4.trans hS1
  show fx_V l M_MO_write (0, 0) Q 0 0 359 [some (.ref 31), none, none, none, none, some (.int (zI x5)), some (.int (zI x6)), some (.int (zI (h.2.1 31 5)))] [] h3
  refine fx_aload_n (i := 0) d_MO_write_359 rfl rfl ?_
  refine fx_iload d_MO_write_360 rfl ?_
  refine fx_callV (M' := M_MO_note) (B' := (0, 0)) (vs := [.int (zI x5)]) (rest := []) (c1 := 0) (s1 := 0) (n := 365) d_MO_write_362 ca_MO_write_236 (at_31 (h := _) hS3) rfl rfl rfl ⟨by decide, by decide⟩ (Nat.le_of_ble_eq_true rfl) (Or.inl rfl) (fx_Mt.mono H fun v h5 hv => ?_)
  obtain ⟨rfl, e6, H⟩ := hv
  have hS5 := e6.trans hS3
  show fx_V l M_MO_write (0, 0) Q 0 0 365 [some (.ref 31), none, none, none, none, some (.int (zI x5)), some (.int (zI x6)), some (.int (zI (h.2.1 31 5)))] [] h5
  refine fx_aload_n (i := 0) d_MO_write_365 rfl rfl ?_
  refine fx_getI d_MO_write_366 lk_MO_105 (at_31 (h := _) hS5) rfl ?_
  exact fx_end (some (.int (zI (h5.2.1 31 5)))) ⟨⟨_, rfl, rfl⟩, d_MO_write_369⟩ (Nat.le_refl _) (Nat.le_refl _) rfl H

set_option maxRecDepth 100000 in
set_option maxHeartbeats 4000000 in
theorem e_MO_isScheme {l : Launch} {Q : Option Value → fx_H → Prop} {h : fx_H}  {x : Int}  {a : Nat → Nat} {pp dd : Nat} (hS : h.1 = fx_S0 a pp dd) 
    (H : zRL x ∧ (((zC x 1) = 0 → Q (some (.int (zI 1))) h) ∧ (¬ ((zC x 1) = 0) → (((zC x 32773) = 0 → Q (some (.int (zI 1))) h) ∧ (¬ ((zC x 32773) = 0) → (((zC x 5) = 0 → Q (some (.int (zI 1))) h) ∧ (¬ ((zC x 5) = 0) → (((zC x 3) = 0 → Q (some (.int (zI 1))) h) ∧ (¬ ((zC x 3) = 0) → ((¬ (zC x 4) = 0 → Q (some (.int (zI 0))) h) ∧ ((zC x 4) = 0 → Q (some (.int (zI 1))) h))))))))))) :
    fx_Mt l M_MO_isScheme (0, 0) [.long (zL x)] h Q := by
  refine fx_entry (ls := [some (.long (zL x)), none]) (by decide) (Nat.le_of_ble_eq_true rfl) rfl ?_
  refine fx_lload_n (i := 0) d_MO_isScheme_0 rfl rfl ?_
  refine fx_lconst (v := 1) d_MO_isScheme_1 rfl ?_
  obtain ⟨hz1, H⟩ := H
  refine fx_lcmp d_MO_isScheme_2 hz1 (show zRL 1 by decide) ?_
  refine fx_if_eq (t := 38) (n := 6) d_MO_isScheme_3 (zC_R _ _) (fun z2 => ?_) (fun z2 => ?_)
  · replace H := H.1 z2
    refine fx_iconst d_MO_isScheme_38 ?_
    refine fx_goto (n := 43) d_MO_isScheme_39 ?_
    exact fx_end (some (.int (zI 1))) ⟨⟨_, rfl, rfl⟩, d_MO_isScheme_43⟩ (Nat.le_refl _) (Nat.le_refl _) rfl H
  · replace H := H.2 z2
    refine fx_lload_n (i := 0) d_MO_isScheme_6 rfl rfl ?_
    refine fx_ldc2 (v := 32773) d_MO_isScheme_7 (fx_in 1051 (by decide +kernel) rfl) ?_
    refine fx_lcmp d_MO_isScheme_10 hz1 (show zRL 32773 by decide) ?_
    refine fx_if_eq (t := 38) (n := 14) d_MO_isScheme_11 (zC_R _ _) (fun z3 => ?_) (fun z3 => ?_)
    · replace H := H.1 z3
      refine fx_iconst d_MO_isScheme_38 ?_
      refine fx_goto (n := 43) d_MO_isScheme_39 ?_
      exact fx_end (some (.int (zI 1))) ⟨⟨_, rfl, rfl⟩, d_MO_isScheme_43⟩ (Nat.le_refl _) (Nat.le_refl _) rfl H
    · replace H := H.2 z3
      refine fx_lload_n (i := 0) d_MO_isScheme_14 rfl rfl ?_
      refine fx_ldc2 (v := 5) d_MO_isScheme_15 (fx_in 1052 (by decide +kernel) rfl) ?_
      refine fx_lcmp d_MO_isScheme_18 hz1 (show zRL 5 by decide) ?_
      refine fx_if_eq (t := 38) (n := 22) d_MO_isScheme_19 (zC_R _ _) (fun z4 => ?_) (fun z4 => ?_)
      · replace H := H.1 z4
        refine fx_iconst d_MO_isScheme_38 ?_
        refine fx_goto (n := 43) d_MO_isScheme_39 ?_
        exact fx_end (some (.int (zI 1))) ⟨⟨_, rfl, rfl⟩, d_MO_isScheme_43⟩ (Nat.le_refl _) (Nat.le_refl _) rfl H
      · replace H := H.2 z4
        refine fx_lload_n (i := 0) d_MO_isScheme_22 rfl rfl ?_
        refine fx_ldc2 (v := 3) d_MO_isScheme_23 (fx_in 1053 (by decide +kernel) rfl) ?_
        refine fx_lcmp d_MO_isScheme_26 hz1 (show zRL 3 by decide) ?_
        refine fx_if_eq (t := 38) (n := 30) d_MO_isScheme_27 (zC_R _ _) (fun z5 => ?_) (fun z5 => ?_)
        · replace H := H.1 z5
          refine fx_iconst d_MO_isScheme_38 ?_
          refine fx_goto (n := 43) d_MO_isScheme_39 ?_
          exact fx_end (some (.int (zI 1))) ⟨⟨_, rfl, rfl⟩, d_MO_isScheme_43⟩ (Nat.le_refl _) (Nat.le_refl _) rfl H
        · replace H := H.2 z5
          refine fx_lload_n (i := 0) d_MO_isScheme_30 rfl rfl ?_
          refine fx_ldc2 (v := 4) d_MO_isScheme_31 (fx_in 1054 (by decide +kernel) rfl) ?_
          refine fx_lcmp d_MO_isScheme_34 hz1 (show zRL 4 by decide) ?_
          refine fx_if_ne (t := 42) (n := 38) d_MO_isScheme_35 (zC_R _ _) (fun z6 => ?_) (fun z6 => ?_)
          · replace H := H.1 z6
            refine fx_iconst d_MO_isScheme_42 ?_
            exact fx_end (some (.int (zI 0))) ⟨⟨_, rfl, rfl⟩, d_MO_isScheme_43⟩ (Nat.le_refl _) (Nat.le_refl _) rfl H
          · replace H := H.2 z6
            refine fx_iconst d_MO_isScheme_38 ?_
            refine fx_goto (n := 43) d_MO_isScheme_39 ?_
            exact fx_end (some (.int (zI 1))) ⟨⟨_, rfl, rfl⟩, d_MO_isScheme_43⟩ (Nat.le_refl _) (Nat.le_refl _) rfl H

set_option maxRecDepth 100000 in
set_option maxHeartbeats 4000000 in
theorem e_MO_out {l : Launch} {Q : Option Value → fx_H → Prop} {h : fx_H}  {x : Int}  {a : Nat → Nat} {pp dd : Nat} (hS : h.1 = fx_S0 a pp dd) 
    (H : 0 ≤ (h.2.1 31 5) ∧ (h.2.1 31 5) < 2000 ∧ Q none (fx_uF (fx_uA h 33 ((h.2.1 31 5).toNat) (x % 256)) 31 5 ((h.2.1 31 5) + 1))) :
    fx_Mt l M_MO_out (0, 0) [.ref 31, .int (zI x)] h Q := by
  refine fx_entry (ls := [some (.ref 31), some (.int (zI x))]) (by decide) (Nat.le_of_ble_eq_true rfl) rfl ?_
  refine fx_aload_n (i := 0) d_MO_out_0 rfl rfl ?_
  refine fx_getR (q := 33) d_MO_out_1 lk_MO_20 (at_31 (h := _) hS) rfl rfl ?_
  refine fx_aload_n (i := 0) d_MO_out_4 rfl rfl ?_
  refine fx_getI d_MO_out_5 lk_MO_105 (at_31 (h := _) hS) rfl ?_
  refine fx_iload_n (i := 1) d_MO_out_8 rfl rfl ?_
  refine fx_sipush (v := 255) d_MO_out_9 rfl ?_
  refine fx_and255 d_MO_out_12 ?_
  obtain ⟨hn1, H⟩ := H
  obtain ⟨hn2, H⟩ := H
  refine fx_iast d_MO_out_13 (at_33 (h := _) hS) hn1 hn2 (by decide) ?_
  refine fx_aload_n (i := 0) d_MO_out_14 rfl rfl ?_
  refine fx_dup d_MO_out_15 rfl ?_
  refine fx_getI d_MO_out_16 lk_MO_105 (at_31 (h := _) hS) rfl ?_
  refine fx_iconst d_MO_out_19 ?_
  refine fx_iadd d_MO_out_20 ?_
  refine fx_putI d_MO_out_21 lk_MO_105 (at_31 (h := _) hS) rfl rfl rfl ?_
  exact fx_end none ⟨rfl, d_MO_out_24⟩ (Nat.le_refl _) (Nat.le_refl _) rfl H

set_option maxRecDepth 100000 in
set_option maxHeartbeats 4000000 in
theorem e_MO_outNumber {l : Launch} {Q : Option Value → fx_H → Prop} {h : fx_H}  {x : Int} {y : Int}  {a : Nat → Nat} {pp dd : Nat} (hS : h.1 = fx_S0 a pp dd) 
    (H : (fx_V l M_MO_outNumber (0, 0) Q 0 0 2 [some (.ref 31), some (.int (zI x)), some (.int (zI y)), some (.int (zI 0))] [] h)) :
    fx_Mt l M_MO_outNumber (0, 0) [.ref 31, .int (zI x), .int (zI y)] h Q := by
  refine fx_entry (ls := [some (.ref 31), some (.int (zI x)), some (.int (zI y)), none]) (by decide) (Nat.le_of_ble_eq_true rfl) rfl ?_
  refine fx_iconst d_MO_outNumber_0 ?_
  refine fx_istore_n (i := 3) (ls2 := [some (.ref 31), some (.int (zI x)), some (.int (zI y)), some (.int (zI 0))]) d_MO_outNumber_1 rfl (by decide) rfl ?_
  exact H

set_option maxRecDepth 100000 in
set_option maxHeartbeats 4000000 in
theorem w_MO_outNumber_2 {l : Launch} {Q : Option Value → fx_H → Prop} {h : fx_H}  {x1 : Int} {x2 : Int} {x3 : Int}  {a : Nat → Nat} {pp dd : Nat} (hS : h.1 = fx_S0 a pp dd) 
    (H : zR x3 ∧ zR x2 ∧ ((x2 ≤ x3 → Q none h) ∧ (¬ (x2 ≤ x3) → zR (h.2.1 31 11) ∧ (((h.2.1 31 11) = 0 → (0 ≤ (8 * x3) ∧ (8 * x3) < 32) ∧ zR x1 ∧ fx_Mt l M_MO_out (0, 0) [.ref 31, .int (zI (x1 / 2 ^ (8 * x3).toNat))] h (fun v h9 => v = none ∧ h9.1 = h.1 ∧ (fx_V l M_MO_outNumber (0, 0) Q 0 0 2 [some (.ref 31), some (.int (zI x1)), some (.int (zI x2)), some (.int (zI (x3 + 1)))] [] h9))) ∧ (¬ ((h.2.1 31 11) = 0) → (0 ≤ (8 * ((x2 - 1) - x3)) ∧ (8 * ((x2 - 1) - x3)) < 32) ∧ zR x1 ∧ fx_Mt l M_MO_out (0, 0) [.ref 31, .int (zI (x1 / 2 ^ (8 * ((x2 - 1) - x3)).toNat))] h (fun v h14 => v = none ∧ h14.1 = h.1 ∧ (fx_V l M_MO_outNumber (0, 0) Q 0 0 2 [some (.ref 31), some (.int (zI x1)), some (.int (zI x2)), some (.int (zI (x3 + 1)))] [] h14))))))) :
    fx_V l M_MO_outNumber (0, 0) Q 0 0 2 [some (.ref 31), some (.int (zI x1)), some (.int (zI x2)), some (.int (zI x3))] [] h := by
  refine fx_iload_n (i := 3) d_MO_outNumber_2 rfl rfl ?_
  refine fx_iload_n (i := 2) d_MO_outNumber_3 rfl rfl ?_
  obtain ⟨hz1, H⟩ := H
  obtain ⟨hz2, H⟩ := H
  refine fx_icmp_ge (t := 38) (n := 7) d_MO_outNumber_4 hz1 hz2 (fun z3 => ?_) (fun z3 => ?_)
  · replace H := H.1 z3
    exact fx_end none ⟨rfl, d_MO_outNumber_38⟩ (Nat.le_refl _) (Nat.le_refl _) rfl H
  · replace H := H.2 z3
    refine fx_aload_n (i := 0) d_MO_outNumber_7 rfl rfl ?_
    refine fx_iload_n (i := 1) d_MO_outNumber_8 rfl rfl ?_
    refine fx_bipush (v := 8) d_MO_outNumber_9 rfl ?_
    refine fx_aload_n (i := 0) d_MO_outNumber_11 rfl rfl ?_
    refine fx_getI d_MO_outNumber_12 lk_MO_108 (at_31 (h := _) hS) rfl ?_
    obtain ⟨hz4, H⟩ := H
    refine fx_if_eq (t := 26) (n := 18) d_MO_outNumber_15 hz4 (fun z5 => ?_) (fun z5 => ?_)
    · replace H := H.1 z5
      refine fx_iload_n (i := 3) d_MO_outNumber_26 rfl rfl ?_
      refine fx_imul d_MO_outNumber_27 ?_
      obtain ⟨hn6, H⟩ := H
      have ez7 : (((8 * x3).toNat : Nat) : Int) = 8 * x3 := Int.toNat_of_nonneg hn6.1
      refine fx_eqv (st2 := [(.int (zI (((8 * x3).toNat : Nat) : Int))), .int (zI x1), .ref 31]) (by rw [ez7]) ?_
      obtain ⟨hz8, H⟩ := H
      refine fx_ishr (j := (8 * x3).toNat) d_MO_outNumber_28 hz8 (by omega) ?_
      refine fx_callV (M' := M_MO_out) (B' := (0, 0)) (vs := [.int (zI (x1 / 2 ^ (8 * x3).toNat))]) (rest := []) (c1 := 0) (s1 := 0) (n := 32) d_MO_outNumber_29 ca_MO_outNumber_111 (at_31 (h := _) hS) rfl rfl rfl ⟨by decide, by decide⟩ (Nat.le_of_ble_eq_true rfl) (Or.inl rfl) (fx_Mt.mono H fun v h9 hv => ?_)
      obtain ⟨rfl, e10, H⟩ := hv
      have hS9 := e10.trans hS
      show fx_V l M_MO_outNumber (0, 0) Q 0 0 32 [some (.ref 31), some (.int (zI x1)), some (.int (zI x2)), some (.int (zI x3))] [] h9
      refine fx_iinc (v := x3 + 1) (ls2 := [some (.ref 31), some (.int (zI x1)), some (.int (zI x2)), some (.int (zI (x3 + 1)))]) d_MO_outNumber_32 rfl rfl (by decide) rfl ?_
      refine fx_goto (n := 2) d_MO_outNumber_35 ?_
      exact H
    · replace H := H.2 z5
      refine fx_iload_n (i := 2) d_MO_outNumber_18 rfl rfl ?_
      refine fx_iconst d_MO_outNumber_19 ?_
      refine fx_isub d_MO_outNumber_20 ?_
      refine fx_iload_n (i := 3) d_MO_outNumber_21 rfl rfl ?_
      refine fx_isub d_MO_outNumber_22 ?_
      refine fx_goto (n := 27) d_MO_outNumber_23 ?_
      refine fx_imul d_MO_outNumber_27 ?_
      obtain ⟨hn11, H⟩ := H
      have ez12 : (((8 * ((x2 - 1) - x3)).toNat : Nat) : Int) = 8 * ((x2 - 1) - x3) := Int.toNat_of_nonneg hn11.1
      refine fx_eqv (st2 := [(.int (zI (((8 * ((x2 - 1) - x3)).toNat : Nat) : Int))), .int (zI x1), .ref 31]) (by rw [ez12]) ?_
      obtain ⟨hz13, H⟩ := H
      refine fx_ishr (j := (8 * ((x2 - 1) - x3)).toNat) d_MO_outNumber_28 hz13 (by omega) ?_
      refine fx_callV (M' := M_MO_out) (B' := (0, 0)) (vs := [.int (zI (x1 / 2 ^ (8 * ((x2 - 1) - x3)).toNat))]) (rest := []) (c1 := 0) (s1 := 0) (n := 32) d_MO_outNumber_29 ca_MO_outNumber_111 (at_31 (h := _) hS) rfl rfl rfl ⟨by decide, by decide⟩ (Nat.le_of_ble_eq_true rfl) (Or.inl rfl) (fx_Mt.mono H fun v h14 hv => ?_)
      obtain ⟨rfl, e15, H⟩ := hv
      have hS14 := e15.trans hS
      show fx_V l M_MO_outNumber (0, 0) Q 0 0 32 [some (.ref 31), some (.int (zI x1)), some (.int (zI x2)), some (.int (zI x3))] [] h14
      refine fx_iinc (v := x3 + 1) (ls2 := [some (.ref 31), some (.int (zI x1)), some (.int (zI x2)), some (.int (zI (x3 + 1)))]) d_MO_outNumber_32 rfl rfl (by decide) rfl ?_
      refine fx_goto (n := 2) d_MO_outNumber_35 ?_
      exact H

set_option maxRecDepth 100000 in
set_option maxHeartbeats 4000000 in
theorem e_MO_rowsOf {l : Launch} {Q : Option Value → fx_H → Prop} {h : fx_H}  {x : Int} {y : Int} {z : Int}  {a : Nat → Nat} {pp dd : Nat} (hS : h.1 = fx_S0 a pp dd) 
    (H : zR (y - (x * z)) ∧ zR z ∧ ((z ≤ (y - (x * z)) → Q (some (.int (zI z))) h) ∧ (¬ (z ≤ (y - (x * z))) → Q (some (.int (zI (y - (x * z))))) h))) :
    fx_Mt l M_MO_rowsOf (0, 0) [.int (zI x), .int (zI y), .int (zI z)] h Q := by
  refine fx_entry (ls := [some (.int (zI x)), some (.int (zI y)), some (.int (zI z))]) (by decide) (Nat.le_of_ble_eq_true rfl) rfl ?_
  refine fx_iload_n (i := 1) d_MO_rowsOf_0 rfl rfl ?_
  refine fx_iload_n (i := 0) d_MO_rowsOf_1 rfl rfl ?_
  refine fx_iload_n (i := 2) d_MO_rowsOf_2 rfl rfl ?_
  refine fx_imul d_MO_rowsOf_3 ?_
  refine fx_isub d_MO_rowsOf_4 ?_
  refine fx_iload_n (i := 2) d_MO_rowsOf_5 rfl rfl ?_
  obtain ⟨hz1, H⟩ := H
  obtain ⟨hz2, H⟩ := H
  refine fx_icmp_ge (t := 17) (n := 9) d_MO_rowsOf_6 hz1 hz2 (fun z3 => ?_) (fun z3 => ?_)
  · replace H := H.1 z3
    refine fx_iload_n (i := 2) d_MO_rowsOf_17 rfl rfl ?_
    exact fx_end (some (.int (zI z))) ⟨⟨_, rfl, rfl⟩, d_MO_rowsOf_18⟩ (Nat.le_refl _) (Nat.le_refl _) rfl H
  · replace H := H.2 z3
    refine fx_iload_n (i := 1) d_MO_rowsOf_9 rfl rfl ?_
    refine fx_iload_n (i := 0) d_MO_rowsOf_10 rfl rfl ?_
    refine fx_iload_n (i := 2) d_MO_rowsOf_11 rfl rfl ?_
    refine fx_imul d_MO_rowsOf_12 ?_
    refine fx_isub d_MO_rowsOf_13 ?_
    refine fx_goto (n := 18) d_MO_rowsOf_14 ?_
    exact fx_end (some (.int (zI (y - (x * z))))) ⟨⟨_, rfl, rfl⟩, d_MO_rowsOf_18⟩ (Nat.le_refl _) (Nat.le_refl _) rfl H

set_option maxRecDepth 100000 in
set_option maxHeartbeats 4000000 in
theorem e_MO_outStrip {l : Launch} {Q : Option Value → fx_H → Prop} {h : fx_H}  {x : Int} {y : Int}  {a : Nat → Nat} {pp dd : Nat} (hS : h.1 = fx_S0 a pp dd) 
    (H : fx_Mt l M_MO_gather (0, 0) [.ref 31, .int (zI x), .int (zI y)] h (fun v h1 => v = none ∧ h1.1 = h.1 ∧ zR (h1.2.1 31 12) ∧ (((h1.2.1 31 12) = 1 → (fx_V l M_MO_outStrip (0, 0) Q 0 0 46 [some (.ref 31), none, none, some (.int (zI 0))] [] h1)) ∧ ((h1.2.1 31 12) = 5 → fx_Mt l M_MO_outTable (0, 0) [.ref 31] h1 (fun v h5 => v = none ∧ h5.1 = h1.1 ∧ Q none h5)) ∧ ((h1.2.1 31 12) = 32773 → fx_Mt l M_MO_outRuns (0, 0) [.ref 31] h1 (fun v h7 => v = none ∧ h7.1 = h1.1 ∧ Q none h7)) ∧ (¬ (h1.2.1 31 12) = 1 → ¬ (h1.2.1 31 12) = 5 → ¬ (h1.2.1 31 12) = 32773 → fx_Mt l M_MO_outFax (0, 0) [.ref 31, .int (zI x), .int (zI y)] h1 (fun v h9 => v = none ∧ h9.1 = h1.1 ∧ Q none h9))))) :
    fx_Mt l M_MO_outStrip (0, 0) [.ref 31, .int (zI x), .int (zI y)] h Q := by
  refine fx_entry (ls := [some (.ref 31), some (.int (zI x)), some (.int (zI y)), none]) (by decide) (Nat.le_of_ble_eq_true rfl) rfl ?_
  refine fx_aload_n (i := 0) d_MO_outStrip_0 rfl rfl ?_
  refine fx_iload_n (i := 1) d_MO_outStrip_1 rfl rfl ?_
  refine fx_iload_n (i := 2) d_MO_outStrip_2 rfl rfl ?_
  refine fx_callV (M' := M_MO_gather) (B' := (0, 0)) (vs := [.int (zI x), .int (zI y)]) (rest := []) (c1 := 0) (s1 := 0) (n := 6) d_MO_outStrip_3 ca_MO_outStrip_189 (at_31 (h := _) hS) rfl rfl rfl ⟨by decide, by decide⟩ (Nat.le_of_ble_eq_true rfl) (Or.inl rfl) (fx_Mt.mono H fun v h1 hv => ?_)
  obtain ⟨rfl, e2, H⟩ := hv
  have hS1 := e2.trans hS
  show fx_V l M_MO_outStrip (0, 0) Q 0 0 6 [some (.ref 31), some (.int (zI x)), some (.int (zI y)), none] [] h1
  refine fx_aload_n (i := 0) d_MO_outStrip_6 rfl rfl ?_
  refine fx_getI d_MO_outStrip_7 lk_MO_180 (at_31 (h := _) hS1) rfl ?_
  obtain ⟨hz3, H⟩ := H
  rcases Classical.em ((h1.2.1 31 12) = 1) with z40 | z40
  · replace H := H.1 z40
    refine fx_lookup (off := 34) (n := 44) d_MO_outStrip_10 (by decide) hz3 (by rw [z40]; decide) ?_
    refine fx_iconst d_MO_outStrip_44 ?_
    refine fx_istore_n (i := 3) (ls2 := [some (.ref 31), some (.int (zI x)), some (.int (zI y)), some (.int (zI 0))]) d_MO_outStrip_45 rfl (by decide) rfl ?_
    exact fx_fewer [some (.ref 31), none, none, some (.int (zI 0))] ⟨rfl, rfl, trivial⟩ H
  replace H := H.2
  rcases Classical.em ((h1.2.1 31 12) = 5) with z41 | z41
  · replace H := H.1 z41
    refine fx_lookup (off := 70) (n := 80) d_MO_outStrip_10 (by decide) hz3 (by rw [z41]; decide) ?_
    refine fx_aload_n (i := 0) d_MO_outStrip_80 rfl rfl ?_
    refine fx_callV (M' := M_MO_outTable) (B' := (0, 0)) (vs := []) (rest := []) (c1 := 0) (s1 := 0) (n := 84) d_MO_outStrip_81 ca_MO_outStrip_195 (at_31 (h := _) hS1) rfl rfl rfl ⟨by decide, by decide⟩ (Nat.le_of_ble_eq_true rfl) (Or.inl rfl) (fx_Mt.mono H fun v h5 hv => ?_)
    obtain ⟨rfl, e6, H⟩ := hv
    have hS5 := e6.trans hS1
    show fx_V l M_MO_outStrip (0, 0) Q 0 0 84 [some (.ref 31), some (.int (zI x)), some (.int (zI y)), none] [] h5
    refine fx_goto (n := 93) d_MO_outStrip_84 ?_
    exact fx_end none ⟨rfl, d_MO_outStrip_93⟩ (Nat.le_refl _) (Nat.le_refl _) rfl H
  replace H := H.2
  rcases Classical.em ((h1.2.1 31 12) = 32773) with z42 | z42
  · replace H := H.1 z42
    refine fx_lookup (off := 63) (n := 73) d_MO_outStrip_10 (by decide) hz3 (by rw [z42]; decide) ?_
    refine fx_aload_n (i := 0) d_MO_outStrip_73 rfl rfl ?_
    refine fx_callV (M' := M_MO_outRuns) (B' := (0, 0)) (vs := []) (rest := []) (c1 := 0) (s1 := 0) (n := 77) d_MO_outStrip_74 ca_MO_outStrip_192 (at_31 (h := _) hS1) rfl rfl rfl ⟨by decide, by decide⟩ (Nat.le_of_ble_eq_true rfl) (Or.inl rfl) (fx_Mt.mono H fun v h7 hv => ?_)
    obtain ⟨rfl, e8, H⟩ := hv
    have hS7 := e8.trans hS1
    show fx_V l M_MO_outStrip (0, 0) Q 0 0 77 [some (.ref 31), some (.int (zI x)), some (.int (zI y)), none] [] h7
    refine fx_goto (n := 93) d_MO_outStrip_77 ?_
    exact fx_end none ⟨rfl, d_MO_outStrip_93⟩ (Nat.le_refl _) (Nat.le_refl _) rfl H
  replace H := H.2
  replace H := H z40 z41 z42
  refine fx_lookup (off := 77) (n := 87) d_MO_outStrip_10 (by decide) hz3 (by simp [Op.lookupswitch.offset, Ne.symm z40, Ne.symm z41, Ne.symm z42]) ?_
  refine fx_aload_n (i := 0) d_MO_outStrip_87 rfl rfl ?_
  refine fx_iload_n (i := 1) d_MO_outStrip_88 rfl rfl ?_
  refine fx_iload_n (i := 2) d_MO_outStrip_89 rfl rfl ?_
  refine fx_callV (M' := M_MO_outFax) (B' := (0, 0)) (vs := [.int (zI x), .int (zI y)]) (rest := []) (c1 := 0) (s1 := 0) (n := 93) d_MO_outStrip_90 ca_MO_outStrip_198 (at_31 (h := _) hS1) rfl rfl rfl ⟨by decide, by decide⟩ (Nat.le_of_ble_eq_true rfl) (Or.inl rfl) (fx_Mt.mono H fun v h9 hv => ?_)
  obtain ⟨rfl, e10, H⟩ := hv
  have hS9 := e10.trans hS1
  show fx_V l M_MO_outStrip (0, 0) Q 0 0 93 [some (.ref 31), some (.int (zI x)), some (.int (zI y)), none] [] h9
  exact fx_end none ⟨rfl, d_MO_outStrip_93⟩ (Nat.le_refl _) (Nat.le_refl _) rfl H

set_option maxRecDepth 100000 in
set_option maxHeartbeats 4000000 in
theorem w_MO_outStrip_46 {l : Launch} {Q : Option Value → fx_H → Prop} {h : fx_H}  {x3 : Int}  {a : Nat → Nat} {pp dd : Nat} (hS : h.1 = fx_S0 a pp dd) 
    (H : zR x3 ∧ zR (h.2.1 31 27) ∧ (((h.2.1 31 27) ≤ x3 → Q none h) ∧ (¬ ((h.2.1 31 27) ≤ x3) → 0 ≤ x3 ∧ x3 < 400 ∧ fx_Mt l M_MO_out (0, 0) [.ref 31, .int (zI (h.2.2.1 38 (x3.toNat)))] h (fun v h6 => v = none ∧ h6.1 = h.1 ∧ (fx_V l M_MO_outStrip (0, 0) Q 0 0 46 [some (.ref 31), none, none, some (.int (zI (x3 + 1)))] [] h6))))) :
    fx_V l M_MO_outStrip (0, 0) Q 0 0 46 [some (.ref 31), none, none, some (.int (zI x3))] [] h := by
  refine fx_iload_n (i := 3) d_MO_outStrip_46 rfl rfl ?_
  refine fx_aload_n (i := 0) d_MO_outStrip_47 rfl rfl ?_
  refine fx_getI d_MO_outStrip_48 lk_MO_134 (at_31 (h := _) hS) rfl ?_
  obtain ⟨hz1, H⟩ := H
  obtain ⟨hz2, H⟩ := H
  refine fx_icmp_ge (t := 70) (n := 54) d_MO_outStrip_51 hz1 hz2 (fun z3 => ?_) (fun z3 => ?_)
  · replace H := H.1 z3
    refine fx_goto (n := 93) d_MO_outStrip_70 ?_
    exact fx_end none ⟨rfl, d_MO_outStrip_93⟩ (Nat.le_refl _) (Nat.le_refl _) rfl H
  · replace H := H.2 z3
    refine fx_aload_n (i := 0) d_MO_outStrip_54 rfl rfl ?_
    refine fx_aload_n (i := 0) d_MO_outStrip_55 rfl rfl ?_
    refine fx_getR (q := 38) d_MO_outStrip_56 lk_MO_47 (at_31 (h := _) hS) rfl rfl ?_
    refine fx_iload_n (i := 3) d_MO_outStrip_59 rfl rfl ?_
    obtain ⟨hn4, H⟩ := H
    obtain ⟨hn5, H⟩ := H
    refine fx_iald d_MO_outStrip_60 (at_38 (h := _) hS) hn4 hn5 (by decide) ?_
    refine fx_callV (M' := M_MO_out) (B' := (0, 0)) (vs := [.int (zI (h.2.2.1 38 (x3.toNat)))]) (rest := []) (c1 := 0) (s1 := 0) (n := 64) d_MO_outStrip_61 ca_MO_outStrip_111 (at_31 (h := _) hS) rfl rfl rfl ⟨by decide, by decide⟩ (Nat.le_of_ble_eq_true rfl) (Or.inl rfl) (fx_Mt.mono H fun v h6 hv => ?_)
    obtain ⟨rfl, e7, H⟩ := hv
    have hS6 := e7.trans hS
    show fx_V l M_MO_outStrip (0, 0) Q 0 0 64 [some (.ref 31), none, none, some (.int (zI x3))] [] h6
    refine fx_iinc (v := x3 + 1) (ls2 := [some (.ref 31), none, none, some (.int (zI (x3 + 1)))]) d_MO_outStrip_64 rfl rfl (by decide) rfl ?_
    refine fx_goto (n := 46) d_MO_outStrip_67 ?_
    exact H

set_option maxRecDepth 100000 in
set_option maxHeartbeats 4000000 in
theorem e_MO_gather {l : Launch} {Q : Option Value → fx_H → Prop} {h : fx_H}  {x : Int} {y : Int}  {a : Nat → Nat} {pp dd : Nat} (hS : h.1 = fx_S0 a pp dd) 
    (H : (fx_V l M_MO_gather (0, 0) Q 0 0 7 [some (.ref 31), some (.int (zI x)), some (.int (zI y)), some (.int (zI x)), none, none, none] [] (fx_uF h 31 27 0))) :
    fx_Mt l M_MO_gather (0, 0) [.ref 31, .int (zI x), .int (zI y)] h Q := by
  refine fx_entry (ls := [some (.ref 31), some (.int (zI x)), some (.int (zI y)), none, none, none, none]) (by decide) (Nat.le_of_ble_eq_true rfl) rfl ?_
  refine fx_aload_n (i := 0) d_MO_gather_0 rfl rfl ?_
  refine fx_iconst d_MO_gather_1 ?_
  refine fx_putI d_MO_gather_2 lk_MO_134 (at_31 (h := _) hS) rfl rfl rfl ?_
  refine fx_iload_n (i := 1) d_MO_gather_5 rfl rfl ?_
  refine fx_istore_n (i := 3) (ls2 := [some (.ref 31), some (.int (zI x)), some (.int (zI y)), some (.int (zI x)), none, none, none]) d_MO_gather_6 rfl (by decide) rfl ?_
  exact H

set_option maxRecDepth 100000 in
set_option maxHeartbeats 4000000 in
theorem w_MO_gather_7 {l : Launch} {Q : Option Value → fx_H → Prop} {h : fx_H}  {x1 : Int} {x2 : Int} {x3 : Int}  {a : Nat → Nat} {pp dd : Nat} (hS : h.1 = fx_S0 a pp dd) 
    (H : zR x3 ∧ zR (x1 + x2) ∧ (((x1 + x2) ≤ x3 → Q none h) ∧ (¬ ((x1 + x2) ≤ x3) → (fx_V l M_MO_gather (0, 0) Q 0 0 17 [some (.ref 31), some (.int (zI x1)), some (.int (zI x2)), some (.int (zI x3)), some (.int (zI 0)), none, none] [] h)))) :
    fx_V l M_MO_gather (0, 0) Q 0 0 7 [some (.ref 31), some (.int (zI x1)), some (.int (zI x2)), some (.int (zI x3)), none, none, none] [] h := by
  refine fx_iload_n (i := 3) d_MO_gather_7 rfl rfl ?_
  refine fx_iload_n (i := 1) d_MO_gather_8 rfl rfl ?_
  refine fx_iload_n (i := 2) d_MO_gather_9 rfl rfl ?_
  refine fx_iadd d_MO_gather_10 ?_
  obtain ⟨hz1, H⟩ := H
  obtain ⟨hz2, H⟩ := H
  refine fx_icmp_ge (t := 153) (n := 14) d_MO_gather_11 hz1 hz2 (fun z3 => ?_) (fun z3 => ?_)
  · replace H := H.1 z3
    exact fx_end none ⟨rfl, d_MO_gather_153⟩ (Nat.le_refl _) (Nat.le_refl _) rfl H
  · replace H := H.2 z3
    refine fx_iconst d_MO_gather_14 ?_
    refine fx_istore (ls2 := [some (.ref 31), some (.int (zI x1)), some (.int (zI x2)), some (.int (zI x3)), some (.int (zI 0)), none, none]) d_MO_gather_15 (by decide) rfl ?_
    exact H

set_option maxRecDepth 100000 in
set_option maxHeartbeats 4000000 in
theorem w_MO_gather_17 {l : Launch} {Q : Option Value → fx_H → Prop} {h : fx_H}  {x1 : Int} {x2 : Int} {x3 : Int} {x4 : Int}  {a : Nat → Nat} {pp dd : Nat} (hS : h.1 = fx_S0 a pp dd) 
    (H : fx_Mt l M_MO_rowBytes (0, 0) [.ref 31] h (fun v h1 => ∃ r3 : Int, v = some (.int (zI r3)) ∧ h1.1 = h.1 ∧ zR x4 ∧ zR r3 ∧ ((r3 ≤ x4 → (fx_V l M_MO_gather (0, 0) Q 0 0 7 [some (.ref 31), some (.int (zI x1)), some (.int (zI x2)), some (.int (zI (x3 + 1))), none, none, none] [] h1)) ∧ (¬ (r3 ≤ x4) → (fx_V l M_MO_gather (0, 0) Q 0 0 36 [some (.ref 31), some (.int (zI x1)), some (.int (zI x2)), some (.int (zI x3)), some (.int (zI x4)), some (.int (zI 0)), some (.int (zI (8 * x4)))] [] h1))))) :
    fx_V l M_MO_gather (0, 0) Q 0 0 17 [some (.ref 31), some (.int (zI x1)), some (.int (zI x2)), some (.int (zI x3)), some (.int (zI x4)), none, none] [] h := by
  refine fx_iload d_MO_gather_17 rfl ?_
  refine fx_aload_n (i := 0) d_MO_gather_19 rfl rfl ?_
  refine fx_callV (M' := M_MO_rowBytes) (B' := (0, 0)) (vs := []) (rest := [.int (zI x4)]) (c1 := 0) (s1 := 0) (n := 23) d_MO_gather_20 ca_MO_gather_137 (at_31 (h := _) hS) rfl rfl rfl ⟨by decide, by decide⟩ (Nat.le_of_ble_eq_true rfl) (Or.inl rfl) (fx_Mt.mono H fun v h1 hv => ?_)
  obtain ⟨r3, rfl, e2, H⟩ := hv
  have hS1 := e2.trans hS
  show fx_V l M_MO_gather (0, 0) Q 0 0 23 [some (.ref 31), some (.int (zI x1)), some (.int (zI x2)), some (.int (zI x3)), some (.int (zI x4)), none, none] [.int (zI r3), .int (zI x4)] h1
  obtain ⟨hz4, H⟩ := H
  obtain ⟨hz5, H⟩ := H
  refine fx_icmp_ge (t := 147) (n := 26) d_MO_gather_23 hz4 hz5 (fun z6 => ?_) (fun z6 => ?_)
  · replace H := H.1 z6
    refine fx_iinc (v := x3 + 1) (ls2 := [some (.ref 31), some (.int (zI x1)), some (.int (zI x2)), some (.int (zI (x3 + 1))), some (.int (zI x4)), none, none]) d_MO_gather_147 rfl rfl (by decide) rfl ?_
    refine fx_goto (n := 7) d_MO_gather_150 ?_
    exact fx_fewer [some (.ref 31), some (.int (zI x1)), some (.int (zI x2)), some (.int (zI (x3 + 1))), none, none, none] ⟨rfl, rfl, rfl, rfl, trivial⟩ H
  · replace H := H.2 z6
    refine fx_iconst d_MO_gather_26 ?_
    refine fx_istore (ls2 := [some (.ref 31), some (.int (zI x1)), some (.int (zI x2)), some (.int (zI x3)), some (.int (zI x4)), some (.int (zI 0)), none]) d_MO_gather_27 (by decide) rfl ?_
    refine fx_bipush (v := 8) d_MO_gather_29 rfl ?_
    refine fx_iload d_MO_gather_31 rfl ?_
    refine fx_imul d_MO_gather_33 ?_
    refine fx_istore (ls2 := [some (.ref 31), some (.int (zI x1)), some (.int (zI x2)), some (.int (zI x3)), some (.int (zI x4)), some (.int (zI 0)), some (.int (zI (8 * x4)))]) d_MO_gather_34 (by decide) rfl ?_
    exact H

set_option maxRecDepth 100000 in
set_option maxHeartbeats 4000000 in
theorem w_MO_gather_36 {l : Launch} {Q : Option Value → fx_H → Prop} {h : fx_H}  {x1 : Int} {x2 : Int} {x3 : Int} {x4 : Int} {x5 : Int} {x6 : Int}  {a : Nat → Nat} {pp dd : Nat} (hS : h.1 = fx_S0 a pp dd) 
    (H : zR x6 ∧ zR ((8 * x4) + 8) ∧ ((((8 * x4) + 8) ≤ x6 → zR (h.2.1 31 14) ∧ (((h.2.1 31 14) = 0 → 0 ≤ (h.2.1 31 27) ∧ (h.2.1 31 27) < 400 ∧ (fx_V l M_MO_gather (0, 0) Q 0 0 17 [some (.ref 31), some (.int (zI x1)), some (.int (zI x2)), some (.int (zI x3)), some (.int (zI (x4 + 1))), none, none] [] (fx_uF (fx_uA h 38 ((h.2.1 31 27).toNat) x5) 31 27 ((h.2.1 31 27) + 1)))) ∧ (¬ ((h.2.1 31 14) = 0) → 0 ≤ (((h.2.1 31 15) * x3) + x4) ∧ (((h.2.1 31 15) * x3) + x4) < 960 ∧ 0 ≤ (h.2.1 31 27) ∧ (h.2.1 31 27) < 400 ∧ (fx_V l M_MO_gather (0, 0) Q 0 0 17 [some (.ref 31), some (.int (zI x1)), some (.int (zI x2)), some (.int (zI x3)), some (.int (zI (x4 + 1))), none, none] [] (fx_uF (fx_uA h 38 ((h.2.1 31 27).toNat) (h.2.2.1 32 ((((h.2.1 31 15) * x3) + x4).toNat))) 31 27 ((h.2.1 31 27) + 1)))))) ∧ (¬ (((8 * x4) + 8) ≤ x6) → zR (h.2.1 31 14) ∧ ((¬ (h.2.1 31 14) = 0 → (fx_V l M_MO_gather (0, 0) Q 0 0 36 [some (.ref 31), some (.int (zI x1)), some (.int (zI x2)), some (.int (zI x3)), some (.int (zI x4)), some (.int (zI ((2 * x5) + 0))), some (.int (zI (x6 + 1)))] [] h)) ∧ ((h.2.1 31 14) = 0 → zR (h.2.1 31 15) ∧ (((h.2.1 31 15) ≤ x6 → (fx_V l M_MO_gather (0, 0) Q 0 0 36 [some (.ref 31), some (.int (zI x1)), some (.int (zI x2)), some (.int (zI x3)), some (.int (zI x4)), some (.int (zI ((2 * x5) + 0))), some (.int (zI (x6 + 1)))] [] h)) ∧ (¬ ((h.2.1 31 15) ≤ x6) → 0 ≤ (((h.2.1 31 15) * x3) + x6) ∧ (((h.2.1 31 15) * x3) + x6) < 960 ∧ (fx_V l M_MO_gather (0, 0) Q 0 0 36 [some (.ref 31), some (.int (zI x1)), some (.int (zI x2)), some (.int (zI x3)), some (.int (zI x4)), some (.int (zI ((2 * x5) + (h.2.2.1 32 ((((h.2.1 31 15) * x3) + x6).toNat))))), some (.int (zI (x6 + 1)))] [] h)))))))) :
    fx_V l M_MO_gather (0, 0) Q 0 0 36 [some (.ref 31), some (.int (zI x1)), some (.int (zI x2)), some (.int (zI x3)), some (.int (zI x4)), some (.int (zI x5)), some (.int (zI x6))] [] h := by
  refine fx_iload d_MO_gather_36 rfl ?_
  refine fx_bipush (v := 8) d_MO_gather_38 rfl ?_
  refine fx_iload d_MO_gather_40 rfl ?_
  refine fx_imul d_MO_gather_42 ?_
  refine fx_bipush (v := 8) d_MO_gather_43 rfl ?_
  refine fx_iadd d_MO_gather_45 ?_
  obtain ⟨hz1, H⟩ := H
  obtain ⟨hz2, H⟩ := H
  refine fx_icmp_ge (t := 96) (n := 49) d_MO_gather_46 hz1 hz2 (fun z3 => ?_) (fun z3 => ?_)
  · replace H := H.1 z3
    refine fx_aload_n (i := 0) d_MO_gather_96 rfl rfl ?_
    refine fx_getR (q := 38) d_MO_gather_97 lk_MO_47 (at_31 (h := _) hS) rfl rfl ?_
    refine fx_aload_n (i := 0) d_MO_gather_100 rfl rfl ?_
    refine fx_getI d_MO_gather_101 lk_MO_134 (at_31 (h := _) hS) rfl ?_
    refine fx_aload_n (i := 0) d_MO_gather_104 rfl rfl ?_
    refine fx_getI d_MO_gather_105 lk_MO_128 (at_31 (h := _) hS) rfl ?_
    obtain ⟨hz4, H⟩ := H
    refine fx_if_eq (t := 128) (n := 111) d_MO_gather_108 hz4 (fun z5 => ?_) (fun z5 => ?_)
    · replace H := H.1 z5
      refine fx_iload d_MO_gather_128 rfl ?_
      obtain ⟨hn6, H⟩ := H
      obtain ⟨hn7, H⟩ := H
      refine fx_iast d_MO_gather_130 (at_38 (h := _) hS) hn6 hn7 (by decide) ?_
      refine fx_aload_n (i := 0) d_MO_gather_131 rfl rfl ?_
      refine fx_dup d_MO_gather_132 rfl ?_
      refine fx_getI d_MO_gather_133 lk_MO_134 (at_31 (h := _) hS) rfl ?_
      refine fx_iconst d_MO_gather_136 ?_
      refine fx_iadd d_MO_gather_137 ?_
      refine fx_putI d_MO_gather_138 lk_MO_134 (at_31 (h := _) hS) rfl rfl rfl ?_
      refine fx_iinc (v := x4 + 1) (ls2 := [some (.ref 31), some (.int (zI x1)), some (.int (zI x2)), some (.int (zI x3)), some (.int (zI (x4 + 1))), some (.int (zI x5)), some (.int (zI x6))]) d_MO_gather_141 rfl rfl (by decide) rfl ?_
      refine fx_goto (n := 17) d_MO_gather_144 ?_
      exact fx_fewer [some (.ref 31), some (.int (zI x1)), some (.int (zI x2)), some (.int (zI x3)), some (.int (zI (x4 + 1))), none, none] ⟨rfl, rfl, rfl, rfl, rfl, trivial⟩ H
    · replace H := H.2 z5
      refine fx_aload_n (i := 0) d_MO_gather_111 rfl rfl ?_
      refine fx_getR (q := 32) d_MO_gather_112 lk_MO_16 (at_31 (h := _) hS) rfl rfl ?_
      refine fx_aload_n (i := 0) d_MO_gather_115 rfl rfl ?_
      refine fx_getI d_MO_gather_116 lk_MO_131 (at_31 (h := _) hS) rfl ?_
      refine fx_iload_n (i := 3) d_MO_gather_119 rfl rfl ?_
      refine fx_imul d_MO_gather_120 ?_
      refine fx_iload d_MO_gather_121 rfl ?_
      refine fx_iadd d_MO_gather_123 ?_
      obtain ⟨hn8, H⟩ := H
      obtain ⟨hn9, H⟩ := H
      refine fx_iald d_MO_gather_124 (at_32 (h := _) hS) hn8 hn9 (by decide) ?_
      refine fx_goto (n := 130) d_MO_gather_125 ?_
      obtain ⟨hn10, H⟩ := H
      obtain ⟨hn11, H⟩ := H
      refine fx_iast d_MO_gather_130 (at_38 (h := _) hS) hn10 hn11 (by decide) ?_
      refine fx_aload_n (i := 0) d_MO_gather_131 rfl rfl ?_
      refine fx_dup d_MO_gather_132 rfl ?_
      refine fx_getI d_MO_gather_133 lk_MO_134 (at_31 (h := _) hS) rfl ?_
      refine fx_iconst d_MO_gather_136 ?_
      refine fx_iadd d_MO_gather_137 ?_
      refine fx_putI d_MO_gather_138 lk_MO_134 (at_31 (h := _) hS) rfl rfl rfl ?_
      refine fx_iinc (v := x4 + 1) (ls2 := [some (.ref 31), some (.int (zI x1)), some (.int (zI x2)), some (.int (zI x3)), some (.int (zI (x4 + 1))), some (.int (zI x5)), some (.int (zI x6))]) d_MO_gather_141 rfl rfl (by decide) rfl ?_
      refine fx_goto (n := 17) d_MO_gather_144 ?_
      exact fx_fewer [some (.ref 31), some (.int (zI x1)), some (.int (zI x2)), some (.int (zI x3)), some (.int (zI (x4 + 1))), none, none] ⟨rfl, rfl, rfl, rfl, rfl, trivial⟩ H
  · replace H := H.2 z3
    refine fx_iconst d_MO_gather_49 ?_
    refine fx_iload d_MO_gather_50 rfl ?_
    refine fx_imul d_MO_gather_52 ?_
    refine fx_aload_n (i := 0) d_MO_gather_53 rfl rfl ?_
    refine fx_getI d_MO_gather_54 lk_MO_128 (at_31 (h := _) hS) rfl ?_
    obtain ⟨hz12, H⟩ := H
    refine fx_if_ne (t := 86) (n := 60) d_MO_gather_57 hz12 (fun z13 => ?_) (fun z13 => ?_)
    · replace H := H.1 z13
      refine fx_iconst d_MO_gather_86 ?_
      refine fx_iadd d_MO_gather_87 ?_
      refine fx_istore (ls2 := [some (.ref 31), some (.int (zI x1)), some (.int (zI x2)), some (.int (zI x3)), some (.int (zI x4)), some (.int (zI ((2 * x5) + 0))), some (.int (zI x6))]) d_MO_gather_88 (by decide) rfl ?_
      refine fx_iinc (v := x6 + 1) (ls2 := [some (.ref 31), some (.int (zI x1)), some (.int (zI x2)), some (.int (zI x3)), some (.int (zI x4)), some (.int (zI ((2 * x5) + 0))), some (.int (zI (x6 + 1)))]) d_MO_gather_90 rfl rfl (by decide) rfl ?_
      refine fx_goto (n := 36) d_MO_gather_93 ?_
      exact H
    · replace H := H.2 z13
      refine fx_iload d_MO_gather_60 rfl ?_
      refine fx_aload_n (i := 0) d_MO_gather_62 rfl rfl ?_
      refine fx_getI d_MO_gather_63 lk_MO_131 (at_31 (h := _) hS) rfl ?_
      obtain ⟨hz14, H⟩ := H
      refine fx_icmp_ge (t := 86) (n := 69) d_MO_gather_66 hz1 hz14 (fun z15 => ?_) (fun z15 => ?_)
      · replace H := H.1 z15
        refine fx_iconst d_MO_gather_86 ?_
        refine fx_iadd d_MO_gather_87 ?_
        refine fx_istore (ls2 := [some (.ref 31), some (.int (zI x1)), some (.int (zI x2)), some (.int (zI x3)), some (.int (zI x4)), some (.int (zI ((2 * x5) + 0))), some (.int (zI x6))]) d_MO_gather_88 (by decide) rfl ?_
        refine fx_iinc (v := x6 + 1) (ls2 := [some (.ref 31), some (.int (zI x1)), some (.int (zI x2)), some (.int (zI x3)), some (.int (zI x4)), some (.int (zI ((2 * x5) + 0))), some (.int (zI (x6 + 1)))]) d_MO_gather_90 rfl rfl (by decide) rfl ?_
        refine fx_goto (n := 36) d_MO_gather_93 ?_
        exact H
      · replace H := H.2 z15
        refine fx_aload_n (i := 0) d_MO_gather_69 rfl rfl ?_
        refine fx_getR (q := 32) d_MO_gather_70 lk_MO_16 (at_31 (h := _) hS) rfl rfl ?_
        refine fx_aload_n (i := 0) d_MO_gather_73 rfl rfl ?_
        refine fx_getI d_MO_gather_74 lk_MO_131 (at_31 (h := _) hS) rfl ?_
        refine fx_iload_n (i := 3) d_MO_gather_77 rfl rfl ?_
        refine fx_imul d_MO_gather_78 ?_
        refine fx_iload d_MO_gather_79 rfl ?_
        refine fx_iadd d_MO_gather_81 ?_
        obtain ⟨hn16, H⟩ := H
        obtain ⟨hn17, H⟩ := H
        refine fx_iald d_MO_gather_82 (at_32 (h := _) hS) hn16 hn17 (by decide) ?_
        refine fx_goto (n := 87) d_MO_gather_83 ?_
        refine fx_iadd d_MO_gather_87 ?_
        refine fx_istore (ls2 := [some (.ref 31), some (.int (zI x1)), some (.int (zI x2)), some (.int (zI x3)), some (.int (zI x4)), some (.int (zI ((2 * x5) + (h.2.2.1 32 ((((h.2.1 31 15) * x3) + x6).toNat))))), some (.int (zI x6))]) d_MO_gather_88 (by decide) rfl ?_
        refine fx_iinc (v := x6 + 1) (ls2 := [some (.ref 31), some (.int (zI x1)), some (.int (zI x2)), some (.int (zI x3)), some (.int (zI x4)), some (.int (zI ((2 * x5) + (h.2.2.1 32 ((((h.2.1 31 15) * x3) + x6).toNat))))), some (.int (zI (x6 + 1)))]) d_MO_gather_90 rfl rfl (by decide) rfl ?_
        refine fx_goto (n := 36) d_MO_gather_93 ?_
        exact H

set_option maxRecDepth 100000 in
set_option maxHeartbeats 4000000 in
theorem e_MO_rowBytes {l : Launch} {Q : Option Value → fx_H → Prop} {h : fx_H}    {a : Nat → Nat} {pp dd : Nat} (hS : h.1 = fx_S0 a pp dd) 
    (H : zR (h.2.1 31 14) ∧ (((h.2.1 31 14) = 0 → 0 ≤ ((h.2.1 31 15) + 7) ∧ zR ((h.2.1 31 15) + 7) ∧ Q (some (.int (zI (((h.2.1 31 15) + 7) / 8)))) h) ∧ (¬ ((h.2.1 31 14) = 0) → Q (some (.int (zI (h.2.1 31 15)))) h))) :
    fx_Mt l M_MO_rowBytes (0, 0) [.ref 31] h Q := by
  refine fx_entry (ls := [some (.ref 31)]) (by decide) (Nat.le_of_ble_eq_true rfl) rfl ?_
  refine fx_aload_n (i := 0) d_MO_rowBytes_0 rfl rfl ?_
  refine fx_getI d_MO_rowBytes_1 lk_MO_128 (at_31 (h := _) hS) rfl ?_
  obtain ⟨hz1, H⟩ := H
  refine fx_if_eq (t := 14) (n := 7) d_MO_rowBytes_4 hz1 (fun z2 => ?_) (fun z2 => ?_)
  · replace H := H.1 z2
    refine fx_aload_n (i := 0) d_MO_rowBytes_14 rfl rfl ?_
    refine fx_getI d_MO_rowBytes_15 lk_MO_131 (at_31 (h := _) hS) rfl ?_
    refine fx_bipush (v := 7) d_MO_rowBytes_18 rfl ?_
    refine fx_iadd d_MO_rowBytes_20 ?_
    refine fx_bipush (v := 8) d_MO_rowBytes_21 rfl ?_
    obtain ⟨hn3, H⟩ := H
    obtain ⟨hz4, H⟩ := H
    refine fx_idiv d_MO_rowBytes_23 hn3 hz4 (show (0 : Int) < 8 by decide) (show zR 8 by decide) ?_
    exact fx_end (some (.int (zI (((h.2.1 31 15) + 7) / 8)))) ⟨⟨_, rfl, rfl⟩, d_MO_rowBytes_24⟩ (Nat.le_refl _) (Nat.le_refl _) rfl H
  · replace H := H.2 z2
    refine fx_aload_n (i := 0) d_MO_rowBytes_7 rfl rfl ?_
    refine fx_getI d_MO_rowBytes_8 lk_MO_131 (at_31 (h := _) hS) rfl ?_
    refine fx_goto (n := 24) d_MO_rowBytes_11 ?_
    exact fx_end (some (.int (zI (h.2.1 31 15)))) ⟨⟨_, rfl, rfl⟩, d_MO_rowBytes_24⟩ (Nat.le_refl _) (Nat.le_refl _) rfl H

set_option maxRecDepth 100000 in
set_option maxHeartbeats 4000000 in
theorem e_MO_outRuns {l : Launch} {Q : Option Value → fx_H → Prop} {h : fx_H}    {a : Nat → Nat} {pp dd : Nat} (hS : h.1 = fx_S0 a pp dd) 
    (H : fx_Mt l M_MO_rowBytes (0, 0) [.ref 31] h (fun v h1 => ∃ r3 : Int, v = some (.int (zI r3)) ∧ h1.1 = h.1 ∧ (fx_V l M_MO_outRuns (0, 0) Q 0 0 7 [some (.ref 31), some (.int (zI r3)), some (.int (zI 0)), none, none, none, none] [] h1))) :
    fx_Mt l M_MO_outRuns (0, 0) [.ref 31] h Q := by
  refine fx_entry (ls := [some (.ref 31), none, none, none, none, none, none]) (by decide) (Nat.le_of_ble_eq_true rfl) rfl ?_
  refine fx_aload_n (i := 0) d_MO_outRuns_0 rfl rfl ?_
  refine fx_callV (M' := M_MO_rowBytes) (B' := (0, 0)) (vs := []) (rest := []) (c1 := 0) (s1 := 0) (n := 4) d_MO_outRuns_1 ca_MO_outRuns_137 (at_31 (h := _) hS) rfl rfl rfl ⟨by decide, by decide⟩ (Nat.le_of_ble_eq_true rfl) (Or.inl rfl) (fx_Mt.mono H fun v h1 hv => ?_)
  obtain ⟨r3, rfl, e2, H⟩ := hv
  have hS1 := e2.trans hS
  show fx_V l M_MO_outRuns (0, 0) Q 0 0 4 [some (.ref 31), none, none, none, none, none, none] [.int (zI r3)] h1
  refine fx_istore_n (i := 1) (ls2 := [some (.ref 31), some (.int (zI r3)), none, none, none, none, none]) d_MO_outRuns_4 rfl (by decide) rfl ?_
  refine fx_iconst d_MO_outRuns_5 ?_
  refine fx_istore_n (i := 2) (ls2 := [some (.ref 31), some (.int (zI r3)), some (.int (zI 0)), none, none, none, none]) d_MO_outRuns_6 rfl (by decide) rfl ?_
  exact H

set_option maxRecDepth 100000 in
set_option maxHeartbeats 4000000 in
theorem w_MO_outRuns_7 {l : Launch} {Q : Option Value → fx_H → Prop} {h : fx_H}  {x1 : Int} {x2 : Int}  {a : Nat → Nat} {pp dd : Nat} (hS : h.1 = fx_S0 a pp dd) 
    (H : zR x2 ∧ zR (h.2.1 31 27) ∧ (((h.2.1 31 27) ≤ x2 → Q none h) ∧ (¬ ((h.2.1 31 27) ≤ x2) → (fx_V l M_MO_outRuns (0, 0) Q 0 0 17 [some (.ref 31), some (.int (zI x1)), some (.int (zI x2)), some (.int (zI x2)), none, none, none] [] h)))) :
    fx_V l M_MO_outRuns (0, 0) Q 0 0 7 [some (.ref 31), some (.int (zI x1)), some (.int (zI x2)), none, none, none, none] [] h := by
  refine fx_iload_n (i := 2) d_MO_outRuns_7 rfl rfl ?_
  refine fx_aload_n (i := 0) d_MO_outRuns_8 rfl rfl ?_
  refine fx_getI d_MO_outRuns_9 lk_MO_134 (at_31 (h := _) hS) rfl ?_
  obtain ⟨hz1, H⟩ := H
  obtain ⟨hz2, H⟩ := H
  refine fx_icmp_ge (t := 213) (n := 15) d_MO_outRuns_12 hz1 hz2 (fun z3 => ?_) (fun z3 => ?_)
  · replace H := H.1 z3
    exact fx_end none ⟨rfl, d_MO_outRuns_213⟩ (Nat.le_refl _) (Nat.le_refl _) rfl H
  · replace H := H.2 z3
    refine fx_iload_n (i := 2) d_MO_outRuns_15 rfl rfl ?_
    refine fx_istore_n (i := 3) (ls2 := [some (.ref 31), some (.int (zI x1)), some (.int (zI x2)), some (.int (zI x2)), none, none, none]) d_MO_outRuns_16 rfl (by decide) rfl ?_
    exact H

set_option maxRecDepth 100000 in
set_option maxHeartbeats 4000000 in
theorem w_MO_outRuns_17 {l : Launch} {Q : Option Value → fx_H → Prop} {h : fx_H}  {x1 : Int} {x2 : Int} {x3 : Int}  {a : Nat → Nat} {pp dd : Nat} (hS : h.1 = fx_S0 a pp dd) 
    (H : zR x3 ∧ zR (x2 + x1) ∧ (((x2 + x1) ≤ x3 → (fx_V l M_MO_outRuns (0, 0) Q 0 0 7 [some (.ref 31), some (.int (zI x1)), some (.int (zI (x2 + x1))), none, none, none, none] [] h)) ∧ (¬ ((x2 + x1) ≤ x3) → zR (x3 + 1) ∧ (((x2 + x1) ≤ (x3 + 1) → (fx_V l M_MO_outRuns (0, 0) Q 0 0 120 [some (.ref 31), some (.int (zI x1)), some (.int (zI x2)), some (.int (zI x3)), some (.int (zI (x3 + 1))), none, none] [] h)) ∧ (¬ ((x2 + x1) ≤ (x3 + 1)) → 0 ≤ (x3 + 1) ∧ (x3 + 1) < 400 ∧ 0 ≤ x3 ∧ x3 < 400 ∧ zR (h.2.2.1 38 ((x3 + 1).toNat)) ∧ zR (h.2.2.1 38 (x3.toNat)) ∧ ((¬ (h.2.2.1 38 ((x3 + 1).toNat)) = (h.2.2.1 38 (x3.toNat)) → (fx_V l M_MO_outRuns (0, 0) Q 0 0 120 [some (.ref 31), some (.int (zI x1)), some (.int (zI x2)), some (.int (zI x3)), some (.int (zI (x3 + 1))), none, none] [] h)) ∧ ((h.2.2.1 38 ((x3 + 1).toNat)) = (h.2.2.1 38 (x3.toNat)) → (fx_V l M_MO_outRuns (0, 0) Q 0 0 65 [some (.ref 31), some (.int (zI x1)), some (.int (zI x2)), some (.int (zI x3)), some (.int (zI (x3 + 1))), none, none] [] h)))))))) :
    fx_V l M_MO_outRuns (0, 0) Q 0 0 17 [some (.ref 31), some (.int (zI x1)), some (.int (zI x2)), some (.int (zI x3)), none, none, none] [] h := by
  refine fx_iload_n (i := 3) d_MO_outRuns_17 rfl rfl ?_
  refine fx_iload_n (i := 2) d_MO_outRuns_18 rfl rfl ?_
  refine fx_iload_n (i := 1) d_MO_outRuns_19 rfl rfl ?_
  refine fx_iadd d_MO_outRuns_20 ?_
  obtain ⟨hz1, H⟩ := H
  obtain ⟨hz2, H⟩ := H
  refine fx_icmp_ge (t := 206) (n := 24) d_MO_outRuns_21 hz1 hz2 (fun z3 => ?_) (fun z3 => ?_)
  · replace H := H.1 z3
    refine fx_iload_n (i := 2) d_MO_outRuns_206 rfl rfl ?_
    refine fx_iload_n (i := 1) d_MO_outRuns_207 rfl rfl ?_
    refine fx_iadd d_MO_outRuns_208 ?_
    refine fx_istore_n (i := 2) (ls2 := [some (.ref 31), some (.int (zI x1)), some (.int (zI (x2 + x1))), some (.int (zI x3)), none, none, none]) d_MO_outRuns_209 rfl (by decide) rfl ?_
    refine fx_goto (n := 7) d_MO_outRuns_210 ?_
    exact fx_fewer [some (.ref 31), some (.int (zI x1)), some (.int (zI (x2 + x1))), none, none, none, none] ⟨rfl, rfl, rfl, trivial⟩ H
  · replace H := H.2 z3
    refine fx_iload_n (i := 3) d_MO_outRuns_24 rfl rfl ?_
    refine fx_iconst d_MO_outRuns_25 ?_
    refine fx_iadd d_MO_outRuns_26 ?_
    refine fx_istore (ls2 := [some (.ref 31), some (.int (zI x1)), some (.int (zI x2)), some (.int (zI x3)), some (.int (zI (x3 + 1))), none, none]) d_MO_outRuns_27 (by decide) rfl ?_
    refine fx_iload d_MO_outRuns_29 rfl ?_
    refine fx_iload_n (i := 2) d_MO_outRuns_31 rfl rfl ?_
    refine fx_iload_n (i := 1) d_MO_outRuns_32 rfl rfl ?_
    refine fx_iadd d_MO_outRuns_33 ?_
    obtain ⟨hz4, H⟩ := H
    refine fx_icmp_ge (t := 57) (n := 37) d_MO_outRuns_34 hz4 hz2 (fun z5 => ?_) (fun z5 => ?_)
    · replace H := H.1 z5
      refine fx_iconst d_MO_outRuns_57 ?_
      refine fx_istore (ls2 := [some (.ref 31), some (.int (zI x1)), some (.int (zI x2)), some (.int (zI x3)), some (.int (zI (x3 + 1))), some (.int (zI 0)), none]) d_MO_outRuns_58 (by decide) rfl ?_
      refine fx_iload d_MO_outRuns_60 rfl ?_
      refine fx_if_eq (t := 120) (n := 65) d_MO_outRuns_62 (show zR 0 by decide) (fun z => ?_) (fun z => absurd (show ¬ ((0 : Int) = (0 : Int)) from z) (by decide))
      exact fx_fewer [some (.ref 31), some (.int (zI x1)), some (.int (zI x2)), some (.int (zI x3)), some (.int (zI (x3 + 1))), none, none] ⟨rfl, rfl, rfl, rfl, rfl, trivial⟩ H
    · replace H := H.2 z5
      refine fx_aload_n (i := 0) d_MO_outRuns_37 rfl rfl ?_
      refine fx_getR (q := 38) d_MO_outRuns_38 lk_MO_47 (at_31 (h := _) hS) rfl rfl ?_
      refine fx_iload d_MO_outRuns_41 rfl ?_
      obtain ⟨hn6, H⟩ := H
      obtain ⟨hn7, H⟩ := H
      refine fx_iald d_MO_outRuns_43 (at_38 (h := _) hS) hn6 hn7 (by decide) ?_
      refine fx_aload_n (i := 0) d_MO_outRuns_44 rfl rfl ?_
      refine fx_getR (q := 38) d_MO_outRuns_45 lk_MO_47 (at_31 (h := _) hS) rfl rfl ?_
      refine fx_iload_n (i := 3) d_MO_outRuns_48 rfl rfl ?_
      obtain ⟨hn8, H⟩ := H
      obtain ⟨hn9, H⟩ := H
      refine fx_iald d_MO_outRuns_49 (at_38 (h := _) hS) hn8 hn9 (by decide) ?_
      obtain ⟨hz10, H⟩ := H
      obtain ⟨hz11, H⟩ := H
      refine fx_icmp_ne (t := 57) (n := 53) d_MO_outRuns_50 hz10 hz11 (fun z12 => ?_) (fun z12 => ?_)
      · replace H := H.1 z12
        refine fx_iconst d_MO_outRuns_57 ?_
        refine fx_istore (ls2 := [some (.ref 31), some (.int (zI x1)), some (.int (zI x2)), some (.int (zI x3)), some (.int (zI (x3 + 1))), some (.int (zI 0)), none]) d_MO_outRuns_58 (by decide) rfl ?_
        refine fx_iload d_MO_outRuns_60 rfl ?_
        refine fx_if_eq (t := 120) (n := 65) d_MO_outRuns_62 (show zR 0 by decide) (fun z => ?_) (fun z => absurd (show ¬ ((0 : Int) = (0 : Int)) from z) (by decide))
        exact fx_fewer [some (.ref 31), some (.int (zI x1)), some (.int (zI x2)), some (.int (zI x3)), some (.int (zI (x3 + 1))), none, none] ⟨rfl, rfl, rfl, rfl, rfl, trivial⟩ H
      · replace H := H.2 z12
        refine fx_iconst d_MO_outRuns_53 ?_
        refine fx_goto (n := 58) d_MO_outRuns_54 ?_
        refine fx_istore (ls2 := [some (.ref 31), some (.int (zI x1)), some (.int (zI x2)), some (.int (zI x3)), some (.int (zI (x3 + 1))), some (.int (zI 1)), none]) d_MO_outRuns_58 (by decide) rfl ?_
        refine fx_iload d_MO_outRuns_60 rfl ?_
        refine fx_if_eq (t := 120) (n := 65) d_MO_outRuns_62 (show zR 1 by decide) (fun z => absurd (show (1 : Int) = (0 : Int) from z) (by decide)) (fun z => ?_)
        exact fx_fewer [some (.ref 31), some (.int (zI x1)), some (.int (zI x2)), some (.int (zI x3)), some (.int (zI (x3 + 1))), none, none] ⟨rfl, rfl, rfl, rfl, rfl, trivial⟩ H

set_option maxRecDepth 100000 in
set_option maxHeartbeats 4000000 in
theorem w_MO_outRuns_65 {l : Launch} {Q : Option Value → fx_H → Prop} {h : fx_H}  {x1 : Int} {x2 : Int} {x3 : Int} {x4 : Int}  {a : Nat → Nat} {pp dd : Nat} (hS : h.1 = fx_S0 a pp dd) 
    (H : zR x4 ∧ zR (x2 + x1) ∧ (((x2 + x1) ≤ x4 → fx_Mt l M_MO_out (0, 0) [.ref 31, .int (zI (257 - (x4 - x3)))] h (fun v h4 => v = none ∧ h4.1 = h.1 ∧ 0 ≤ x3 ∧ x3 < 400 ∧ fx_Mt l M_MO_out (0, 0) [.ref 31, .int (zI (h4.2.2.1 38 (x3.toNat)))] h4 (fun v h8 => v = none ∧ h8.1 = h4.1 ∧ (fx_V l M_MO_outRuns (0, 0) Q 0 0 17 [some (.ref 31), some (.int (zI x1)), some (.int (zI x2)), some (.int (zI x4)), none, none, none] [] h8)))) ∧ (¬ ((x2 + x1) ≤ x4) → 0 ≤ x4 ∧ x4 < 400 ∧ 0 ≤ x3 ∧ x3 < 400 ∧ zR (h.2.2.1 38 (x4.toNat)) ∧ zR (h.2.2.1 38 (x3.toNat)) ∧ ((¬ (h.2.2.1 38 (x4.toNat)) = (h.2.2.1 38 (x3.toNat)) → fx_Mt l M_MO_out (0, 0) [.ref 31, .int (zI (257 - (x4 - x3)))] h (fun v h17 => v = none ∧ h17.1 = h.1 ∧ 0 ≤ x3 ∧ x3 < 400 ∧ fx_Mt l M_MO_out (0, 0) [.ref 31, .int (zI (h17.2.2.1 38 (x3.toNat)))] h17 (fun v h21 => v = none ∧ h21.1 = h17.1 ∧ (fx_V l M_MO_outRuns (0, 0) Q 0 0 17 [some (.ref 31), some (.int (zI x1)), some (.int (zI x2)), some (.int (zI x4)), none, none, none] [] h21)))) ∧ ((h.2.2.1 38 (x4.toNat)) = (h.2.2.1 38 (x3.toNat)) → (fx_V l M_MO_outRuns (0, 0) Q 0 0 65 [some (.ref 31), some (.int (zI x1)), some (.int (zI x2)), some (.int (zI x3)), some (.int (zI (x4 + 1))), none, none] [] h)))))) :
    fx_V l M_MO_outRuns (0, 0) Q 0 0 65 [some (.ref 31), some (.int (zI x1)), some (.int (zI x2)), some (.int (zI x3)), some (.int (zI x4)), none, none] [] h := by
  refine fx_iload d_MO_outRuns_65 rfl ?_
  refine fx_iload_n (i := 2) d_MO_outRuns_67 rfl rfl ?_
  refine fx_iload_n (i := 1) d_MO_outRuns_68 rfl rfl ?_
  refine fx_iadd d_MO_outRuns_69 ?_
  obtain ⟨hz1, H⟩ := H
  obtain ⟨hz2, H⟩ := H
  refine fx_icmp_ge (t := 95) (n := 73) d_MO_outRuns_70 hz1 hz2 (fun z3 => ?_) (fun z3 => ?_)
  · replace H := H.1 z3
    refine fx_aload_n (i := 0) d_MO_outRuns_95 rfl rfl ?_
    refine fx_sipush (v := 257) d_MO_outRuns_96 rfl ?_
    refine fx_iload d_MO_outRuns_99 rfl ?_
    refine fx_iload_n (i := 3) d_MO_outRuns_101 rfl rfl ?_
    refine fx_isub d_MO_outRuns_102 ?_
    refine fx_isub d_MO_outRuns_103 ?_
    refine fx_callV (M' := M_MO_out) (B' := (0, 0)) (vs := [.int (zI (257 - (x4 - x3)))]) (rest := []) (c1 := 0) (s1 := 0) (n := 107) d_MO_outRuns_104 ca_MO_outRuns_111 (at_31 (h := _) hS) rfl rfl rfl ⟨by decide, by decide⟩ (Nat.le_of_ble_eq_true rfl) (Or.inl rfl) (fx_Mt.mono H fun v h4 hv => ?_)
    obtain ⟨rfl, e5, H⟩ := hv
    have hS4 := e5.trans hS
    show fx_V l M_MO_outRuns (0, 0) Q 0 0 107 [some (.ref 31), some (.int (zI x1)), some (.int (zI x2)), some (.int (zI x3)), some (.int (zI x4)), none, none] [] h4
    refine fx_aload_n (i := 0) d_MO_outRuns_107 rfl rfl ?_
    refine fx_aload_n (i := 0) d_MO_outRuns_108 rfl rfl ?_
    refine fx_getR (q := 38) d_MO_outRuns_109 lk_MO_47 (at_31 (h := _) hS4) rfl rfl ?_
    refine fx_iload_n (i := 3) d_MO_outRuns_112 rfl rfl ?_
    obtain ⟨hn6, H⟩ := H
    obtain ⟨hn7, H⟩ := H
    refine fx_iald d_MO_outRuns_113 (at_38 (h := _) hS4) hn6 hn7 (by decide) ?_
    refine fx_callV (M' := M_MO_out) (B' := (0, 0)) (vs := [.int (zI (h4.2.2.1 38 (x3.toNat)))]) (rest := []) (c1 := 0) (s1 := 0) (n := 117) d_MO_outRuns_114 ca_MO_outRuns_111 (at_31 (h := _) hS4) rfl rfl rfl ⟨by decide, by decide⟩ (Nat.le_of_ble_eq_true rfl) (Or.inl rfl) (fx_Mt.mono H fun v h8 hv => ?_)
    obtain ⟨rfl, e9, H⟩ := hv
    have hS8 := e9.trans hS4
    show fx_V l M_MO_outRuns (0, 0) Q 0 0 117 [some (.ref 31), some (.int (zI x1)), some (.int (zI x2)), some (.int (zI x3)), some (.int (zI x4)), none, none] [] h8
    refine fx_goto (n := 200) d_MO_outRuns_117 ?_
    refine fx_iload d_MO_outRuns_200 rfl ?_
    refine fx_istore_n (i := 3) (ls2 := [some (.ref 31), some (.int (zI x1)), some (.int (zI x2)), some (.int (zI x4)), some (.int (zI x4)), none, none]) d_MO_outRuns_202 rfl (by decide) rfl ?_
    refine fx_goto (n := 17) d_MO_outRuns_203 ?_
    exact fx_fewer [some (.ref 31), some (.int (zI x1)), some (.int (zI x2)), some (.int (zI x4)), none, none, none] ⟨rfl, rfl, rfl, rfl, trivial⟩ H
  · replace H := H.2 z3
    refine fx_aload_n (i := 0) d_MO_outRuns_73 rfl rfl ?_
    refine fx_getR (q := 38) d_MO_outRuns_74 lk_MO_47 (at_31 (h := _) hS) rfl rfl ?_
    refine fx_iload d_MO_outRuns_77 rfl ?_
    obtain ⟨hn10, H⟩ := H
    obtain ⟨hn11, H⟩ := H
    refine fx_iald d_MO_outRuns_79 (at_38 (h := _) hS) hn10 hn11 (by decide) ?_
    refine fx_aload_n (i := 0) d_MO_outRuns_80 rfl rfl ?_
    refine fx_getR (q := 38) d_MO_outRuns_81 lk_MO_47 (at_31 (h := _) hS) rfl rfl ?_
    refine fx_iload_n (i := 3) d_MO_outRuns_84 rfl rfl ?_
    obtain ⟨hn12, H⟩ := H
    obtain ⟨hn13, H⟩ := H
    refine fx_iald d_MO_outRuns_85 (at_38 (h := _) hS) hn12 hn13 (by decide) ?_
    obtain ⟨hz14, H⟩ := H
    obtain ⟨hz15, H⟩ := H
    refine fx_icmp_ne (t := 95) (n := 89) d_MO_outRuns_86 hz14 hz15 (fun z16 => ?_) (fun z16 => ?_)
    · replace H := H.1 z16
      refine fx_aload_n (i := 0) d_MO_outRuns_95 rfl rfl ?_
      refine fx_sipush (v := 257) d_MO_outRuns_96 rfl ?_
      refine fx_iload d_MO_outRuns_99 rfl ?_
      refine fx_iload_n (i := 3) d_MO_outRuns_101 rfl rfl ?_
      refine fx_isub d_MO_outRuns_102 ?_
      refine fx_isub d_MO_outRuns_103 ?_
      refine fx_callV (M' := M_MO_out) (B' := (0, 0)) (vs := [.int (zI (257 - (x4 - x3)))]) (rest := []) (c1 := 0) (s1 := 0) (n := 107) d_MO_outRuns_104 ca_MO_outRuns_111 (at_31 (h := _) hS) rfl rfl rfl ⟨by decide, by decide⟩ (Nat.le_of_ble_eq_true rfl) (Or.inl rfl) (fx_Mt.mono H fun v h17 hv => ?_)
      obtain ⟨rfl, e18, H⟩ := hv
      have hS17 := e18.trans hS
      show fx_V l M_MO_outRuns (0, 0) Q 0 0 107 [some (.ref 31), some (.int (zI x1)), some (.int (zI x2)), some (.int (zI x3)), some (.int (zI x4)), none, none] [] h17
      refine fx_aload_n (i := 0) d_MO_outRuns_107 rfl rfl ?_
      refine fx_aload_n (i := 0) d_MO_outRuns_108 rfl rfl ?_
      refine fx_getR (q := 38) d_MO_outRuns_109 lk_MO_47 (at_31 (h := _) hS17) rfl rfl ?_
      refine fx_iload_n (i := 3) d_MO_outRuns_112 rfl rfl ?_
      obtain ⟨hn19, H⟩ := H
      obtain ⟨hn20, H⟩ := H
      refine fx_iald d_MO_outRuns_113 (at_38 (h := _) hS17) hn19 hn20 (by decide) ?_
      refine fx_callV (M' := M_MO_out) (B' := (0, 0)) (vs := [.int (zI (h17.2.2.1 38 (x3.toNat)))]) (rest := []) (c1 := 0) (s1 := 0) (n := 117) d_MO_outRuns_114 ca_MO_outRuns_111 (at_31 (h := _) hS17) rfl rfl rfl ⟨by decide, by decide⟩ (Nat.le_of_ble_eq_true rfl) (Or.inl rfl) (fx_Mt.mono H fun v h21 hv => ?_)
      obtain ⟨rfl, e22, H⟩ := hv
      have hS21 := e22.trans hS17
      show fx_V l M_MO_outRuns (0, 0) Q 0 0 117 [some (.ref 31), some (.int (zI x1)), some (.int (zI x2)), some (.int (zI x3)), some (.int (zI x4)), none, none] [] h21
      refine fx_goto (n := 200) d_MO_outRuns_117 ?_
      refine fx_iload d_MO_outRuns_200 rfl ?_
      refine fx_istore_n (i := 3) (ls2 := [some (.ref 31), some (.int (zI x1)), some (.int (zI x2)), some (.int (zI x4)), some (.int (zI x4)), none, none]) d_MO_outRuns_202 rfl (by decide) rfl ?_
      refine fx_goto (n := 17) d_MO_outRuns_203 ?_
      exact fx_fewer [some (.ref 31), some (.int (zI x1)), some (.int (zI x2)), some (.int (zI x4)), none, none, none] ⟨rfl, rfl, rfl, rfl, trivial⟩ H
    · replace H := H.2 z16
      refine fx_iinc (v := x4 + 1) (ls2 := [some (.ref 31), some (.int (zI x1)), some (.int (zI x2)), some (.int (zI x3)), some (.int (zI (x4 + 1))), none, none]) d_MO_outRuns_89 rfl rfl (by decide) rfl ?_
      refine fx_goto (n := 65) d_MO_outRuns_92 ?_
      exact H

set_option maxRecDepth 100000 in
set_option maxHeartbeats 4000000 in
theorem w_MO_outRuns_120 {l : Launch} {Q : Option Value → fx_H → Prop} {h : fx_H}  {x1 : Int} {x2 : Int} {x3 : Int} {x4 : Int}  {a : Nat → Nat} {pp dd : Nat} (hS : h.1 = fx_S0 a pp dd) 
    (H : zR x4 ∧ zR (x2 + x1) ∧ (((x2 + x1) ≤ x4 → fx_Mt l M_MO_out (0, 0) [.ref 31, .int (zI ((x4 - x3) - 1))] h (fun v h4 => v = none ∧ h4.1 = h.1 ∧ (fx_V l M_MO_outRuns (0, 0) Q 0 0 176 [some (.ref 31), some (.int (zI x1)), some (.int (zI x2)), none, some (.int (zI x4)), none, some (.int (zI x3))] [] h4))) ∧ (¬ ((x2 + x1) ≤ x4) → zR (x4 + 1) ∧ (((x4 + 1) = (x2 + x1) → (fx_V l M_MO_outRuns (0, 0) Q 0 0 120 [some (.ref 31), some (.int (zI x1)), some (.int (zI x2)), some (.int (zI x3)), some (.int (zI (x4 + 1))), none, none] [] h)) ∧ (¬ ((x4 + 1) = (x2 + x1)) → 0 ≤ x4 ∧ x4 < 400 ∧ 0 ≤ (x4 + 1) ∧ (x4 + 1) < 400 ∧ zR (h.2.2.1 38 (x4.toNat)) ∧ zR (h.2.2.1 38 ((x4 + 1).toNat)) ∧ (((h.2.2.1 38 (x4.toNat)) = (h.2.2.1 38 ((x4 + 1).toNat)) → fx_Mt l M_MO_out (0, 0) [.ref 31, .int (zI ((x4 - x3) - 1))] h (fun v h15 => v = none ∧ h15.1 = h.1 ∧ (fx_V l M_MO_outRuns (0, 0) Q 0 0 176 [some (.ref 31), some (.int (zI x1)), some (.int (zI x2)), none, some (.int (zI x4)), none, some (.int (zI x3))] [] h15))) ∧ (¬ ((h.2.2.1 38 (x4.toNat)) = (h.2.2.1 38 ((x4 + 1).toNat))) → (fx_V l M_MO_outRuns (0, 0) Q 0 0 120 [some (.ref 31), some (.int (zI x1)), some (.int (zI x2)), some (.int (zI x3)), some (.int (zI (x4 + 1))), none, none] [] h)))))))) :
    fx_V l M_MO_outRuns (0, 0) Q 0 0 120 [some (.ref 31), some (.int (zI x1)), some (.int (zI x2)), some (.int (zI x3)), some (.int (zI x4)), none, none] [] h := by
  refine fx_iload d_MO_outRuns_120 rfl ?_
  refine fx_iload_n (i := 2) d_MO_outRuns_122 rfl rfl ?_
  refine fx_iload_n (i := 1) d_MO_outRuns_123 rfl rfl ?_
  refine fx_iadd d_MO_outRuns_124 ?_
  obtain ⟨hz1, H⟩ := H
  obtain ⟨hz2, H⟩ := H
  refine fx_icmp_ge (t := 163) (n := 128) d_MO_outRuns_125 hz1 hz2 (fun z3 => ?_) (fun z3 => ?_)
  · replace H := H.1 z3
    refine fx_aload_n (i := 0) d_MO_outRuns_163 rfl rfl ?_
    refine fx_iload d_MO_outRuns_164 rfl ?_
    refine fx_iload_n (i := 3) d_MO_outRuns_166 rfl rfl ?_
    refine fx_isub d_MO_outRuns_167 ?_
    refine fx_iconst d_MO_outRuns_168 ?_
    refine fx_isub d_MO_outRuns_169 ?_
    refine fx_callV (M' := M_MO_out) (B' := (0, 0)) (vs := [.int (zI ((x4 - x3) - 1))]) (rest := []) (c1 := 0) (s1 := 0) (n := 173) d_MO_outRuns_170 ca_MO_outRuns_111 (at_31 (h := _) hS) rfl rfl rfl ⟨by decide, by decide⟩ (Nat.le_of_ble_eq_true rfl) (Or.inl rfl) (fx_Mt.mono H fun v h4 hv => ?_)
    obtain ⟨rfl, e5, H⟩ := hv
    have hS4 := e5.trans hS
    show fx_V l M_MO_outRuns (0, 0) Q 0 0 173 [some (.ref 31), some (.int (zI x1)), some (.int (zI x2)), some (.int (zI x3)), some (.int (zI x4)), none, none] [] h4
    refine fx_iload_n (i := 3) d_MO_outRuns_173 rfl rfl ?_
    refine fx_istore (ls2 := [some (.ref 31), some (.int (zI x1)), some (.int (zI x2)), some (.int (zI x3)), some (.int (zI x4)), none, some (.int (zI x3))]) d_MO_outRuns_174 (by decide) rfl ?_
    exact fx_fewer [some (.ref 31), some (.int (zI x1)), some (.int (zI x2)), none, some (.int (zI x4)), none, some (.int (zI x3))] ⟨rfl, rfl, rfl, rfl, rfl, trivial⟩ H
  · replace H := H.2 z3
    refine fx_iload d_MO_outRuns_128 rfl ?_
    refine fx_iconst d_MO_outRuns_130 ?_
    refine fx_iadd d_MO_outRuns_131 ?_
    refine fx_iload_n (i := 2) d_MO_outRuns_132 rfl rfl ?_
    refine fx_iload_n (i := 1) d_MO_outRuns_133 rfl rfl ?_
    refine fx_iadd d_MO_outRuns_134 ?_
    obtain ⟨hz6, H⟩ := H
    refine fx_icmp_eq (t := 157) (n := 138) d_MO_outRuns_135 hz6 hz2 (fun z7 => ?_) (fun z7 => ?_)
    · replace H := H.1 z7
      refine fx_iinc (v := x4 + 1) (ls2 := [some (.ref 31), some (.int (zI x1)), some (.int (zI x2)), some (.int (zI x3)), some (.int (zI (x4 + 1))), none, none]) d_MO_outRuns_157 rfl rfl (by decide) rfl ?_
      refine fx_goto (n := 120) d_MO_outRuns_160 ?_
      exact H
    · replace H := H.2 z7
      refine fx_aload_n (i := 0) d_MO_outRuns_138 rfl rfl ?_
      refine fx_getR (q := 38) d_MO_outRuns_139 lk_MO_47 (at_31 (h := _) hS) rfl rfl ?_
      refine fx_iload d_MO_outRuns_142 rfl ?_
      obtain ⟨hn8, H⟩ := H
      obtain ⟨hn9, H⟩ := H
      refine fx_iald d_MO_outRuns_144 (at_38 (h := _) hS) hn8 hn9 (by decide) ?_
      refine fx_aload_n (i := 0) d_MO_outRuns_145 rfl rfl ?_
      refine fx_getR (q := 38) d_MO_outRuns_146 lk_MO_47 (at_31 (h := _) hS) rfl rfl ?_
      refine fx_iload d_MO_outRuns_149 rfl ?_
      refine fx_iconst d_MO_outRuns_151 ?_
      refine fx_iadd d_MO_outRuns_152 ?_
      obtain ⟨hn10, H⟩ := H
      obtain ⟨hn11, H⟩ := H
      refine fx_iald d_MO_outRuns_153 (at_38 (h := _) hS) hn10 hn11 (by decide) ?_
      obtain ⟨hz12, H⟩ := H
      obtain ⟨hz13, H⟩ := H
      refine fx_icmp_eq (t := 163) (n := 157) d_MO_outRuns_154 hz12 hz13 (fun z14 => ?_) (fun z14 => ?_)
      · replace H := H.1 z14
        refine fx_aload_n (i := 0) d_MO_outRuns_163 rfl rfl ?_
        refine fx_iload d_MO_outRuns_164 rfl ?_
        refine fx_iload_n (i := 3) d_MO_outRuns_166 rfl rfl ?_
        refine fx_isub d_MO_outRuns_167 ?_
        refine fx_iconst d_MO_outRuns_168 ?_
        refine fx_isub d_MO_outRuns_169 ?_
        refine fx_callV (M' := M_MO_out) (B' := (0, 0)) (vs := [.int (zI ((x4 - x3) - 1))]) (rest := []) (c1 := 0) (s1 := 0) (n := 173) d_MO_outRuns_170 ca_MO_outRuns_111 (at_31 (h := _) hS) rfl rfl rfl ⟨by decide, by decide⟩ (Nat.le_of_ble_eq_true rfl) (Or.inl rfl) (fx_Mt.mono H fun v h15 hv => ?_)
        obtain ⟨rfl, e16, H⟩ := hv
        have hS15 := e16.trans hS
        show fx_V l M_MO_outRuns (0, 0) Q 0 0 173 [some (.ref 31), some (.int (zI x1)), some (.int (zI x2)), some (.int (zI x3)), some (.int (zI x4)), none, none] [] h15
        refine fx_iload_n (i := 3) d_MO_outRuns_173 rfl rfl ?_
        refine fx_istore (ls2 := [some (.ref 31), some (.int (zI x1)), some (.int (zI x2)), some (.int (zI x3)), some (.int (zI x4)), none, some (.int (zI x3))]) d_MO_outRuns_174 (by decide) rfl ?_
        exact fx_fewer [some (.ref 31), some (.int (zI x1)), some (.int (zI x2)), none, some (.int (zI x4)), none, some (.int (zI x3))] ⟨rfl, rfl, rfl, rfl, rfl, trivial⟩ H
      · replace H := H.2 z14
        refine fx_iinc (v := x4 + 1) (ls2 := [some (.ref 31), some (.int (zI x1)), some (.int (zI x2)), some (.int (zI x3)), some (.int (zI (x4 + 1))), none, none]) d_MO_outRuns_157 rfl rfl (by decide) rfl ?_
        refine fx_goto (n := 120) d_MO_outRuns_160 ?_
        exact H

set_option maxRecDepth 100000 in
set_option maxHeartbeats 4000000 in
theorem w_MO_outRuns_176 {l : Launch} {Q : Option Value → fx_H → Prop} {h : fx_H}  {x1 : Int} {x2 : Int} {x4 : Int} {x6 : Int}  {a : Nat → Nat} {pp dd : Nat} (hS : h.1 = fx_S0 a pp dd) 
    (H : zR x6 ∧ zR x4 ∧ ((x4 ≤ x6 → (fx_V l M_MO_outRuns (0, 0) Q 0 0 17 [some (.ref 31), some (.int (zI x1)), some (.int (zI x2)), some (.int (zI x4)), none, none, none] [] h)) ∧ (¬ (x4 ≤ x6) → 0 ≤ x6 ∧ x6 < 400 ∧ fx_Mt l M_MO_out (0, 0) [.ref 31, .int (zI (h.2.2.1 38 (x6.toNat)))] h (fun v h6 => v = none ∧ h6.1 = h.1 ∧ (fx_V l M_MO_outRuns (0, 0) Q 0 0 176 [some (.ref 31), some (.int (zI x1)), some (.int (zI x2)), none, some (.int (zI x4)), none, some (.int (zI (x6 + 1)))] [] h6))))) :
    fx_V l M_MO_outRuns (0, 0) Q 0 0 176 [some (.ref 31), some (.int (zI x1)), some (.int (zI x2)), none, some (.int (zI x4)), none, some (.int (zI x6))] [] h := by
  refine fx_iload d_MO_outRuns_176 rfl ?_
  refine fx_iload d_MO_outRuns_178 rfl ?_
  obtain ⟨hz1, H⟩ := H
  obtain ⟨hz2, H⟩ := H
  refine fx_icmp_ge (t := 200) (n := 183) d_MO_outRuns_180 hz1 hz2 (fun z3 => ?_) (fun z3 => ?_)
  · replace H := H.1 z3
    refine fx_iload d_MO_outRuns_200 rfl ?_
    refine fx_istore_n (i := 3) (ls2 := [some (.ref 31), some (.int (zI x1)), some (.int (zI x2)), some (.int (zI x4)), some (.int (zI x4)), none, some (.int (zI x6))]) d_MO_outRuns_202 rfl (by decide) rfl ?_
    refine fx_goto (n := 17) d_MO_outRuns_203 ?_
    exact fx_fewer [some (.ref 31), some (.int (zI x1)), some (.int (zI x2)), some (.int (zI x4)), none, none, none] ⟨rfl, rfl, rfl, rfl, trivial⟩ H
  · replace H := H.2 z3
    refine fx_aload_n (i := 0) d_MO_outRuns_183 rfl rfl ?_
    refine fx_aload_n (i := 0) d_MO_outRuns_184 rfl rfl ?_
    refine fx_getR (q := 38) d_MO_outRuns_185 lk_MO_47 (at_31 (h := _) hS) rfl rfl ?_
    refine fx_iload d_MO_outRuns_188 rfl ?_
    obtain ⟨hn4, H⟩ := H
    obtain ⟨hn5, H⟩ := H
    refine fx_iald d_MO_outRuns_190 (at_38 (h := _) hS) hn4 hn5 (by decide) ?_
    refine fx_callV (M' := M_MO_out) (B' := (0, 0)) (vs := [.int (zI (h.2.2.1 38 (x6.toNat)))]) (rest := []) (c1 := 0) (s1 := 0) (n := 194) d_MO_outRuns_191 ca_MO_outRuns_111 (at_31 (h := _) hS) rfl rfl rfl ⟨by decide, by decide⟩ (Nat.le_of_ble_eq_true rfl) (Or.inl rfl) (fx_Mt.mono H fun v h6 hv => ?_)
    obtain ⟨rfl, e7, H⟩ := hv
    have hS6 := e7.trans hS
    show fx_V l M_MO_outRuns (0, 0) Q 0 0 194 [some (.ref 31), some (.int (zI x1)), some (.int (zI x2)), none, some (.int (zI x4)), none, some (.int (zI x6))] [] h6
    refine fx_iinc (v := x6 + 1) (ls2 := [some (.ref 31), some (.int (zI x1)), some (.int (zI x2)), none, some (.int (zI x4)), none, some (.int (zI (x6 + 1)))]) d_MO_outRuns_194 rfl rfl (by decide) rfl ?_
    refine fx_goto (n := 176) d_MO_outRuns_197 ?_
    exact H

