/-! calls that write nothing: their contracts -/
theorem en_BY_has {l : Launch} {Qv : Int → Prop} {h : fx_H}  {x : Int}  {a : Nat → Nat} {pp dd : Nat} (hS : h.1 = fx_S0 a pp dd) 
    (H : zR x ∧ ((x < 0 → Qv 0) ∧ (¬ (x < 0) → zR (h.2.1 1 1) ∧ (((h.2.1 1 1) ≤ x → Qv 0) ∧ (¬ ((h.2.1 1 1) ≤ x) → Qv 1))))) :
    fx_Mq l M_BY_has [.ref 1, .int (zI x)] h Qv := by
  refine fn_entry (ls := [some (.ref 1), some (.int (zI x))]) (by decide) (Nat.le_of_ble_eq_true rfl) rfl ?_
  refine fn_iload_n (i := 1) d_BY_has_0 rfl rfl ?_
  obtain ⟨hz1, H⟩ := H
  refine fn_if_lt (t := 16) (n := 4) d_BY_has_1 hz1 (fun z2 => ?_) (fun z2 => ?_)
  · replace H := H.1 z2
    refine fn_iconst d_BY_has_16 ?_
    exact fn_end 0 ⟨⟨_, rfl, rfl⟩, d_BY_has_17⟩ H
  · replace H := H.2 z2
    refine fn_iload_n (i := 1) d_BY_has_4 rfl rfl ?_
    refine fn_aload_n (i := 0) d_BY_has_5 rfl rfl ?_
    refine fn_getI d_BY_has_6 lk_BY_15 (at_1 (h := _) hS) rfl ?_
    obtain ⟨hz3, H⟩ := H
    refine fn_icmp_ge (t := 16) (n := 12) d_BY_has_9 hz1 hz3 (fun z4 => ?_) (fun z4 => ?_)
    · replace H := H.1 z4
      refine fn_iconst d_BY_has_16 ?_
      exact fn_end 0 ⟨⟨_, rfl, rfl⟩, d_BY_has_17⟩ H
    · replace H := H.2 z4
      refine fn_iconst d_BY_has_12 ?_
      refine fn_goto (n := 17) d_BY_has_13 ?_
      exact fn_end 1 ⟨⟨_, rfl, rfl⟩, d_BY_has_17⟩ H
theorem en_PI_has {l : Launch} {Qv : Int → Prop} {h : fx_H} {p : Nat} {x : Int} {y : Int} {hp_a : Nat} {hx_a : Nat} (hp : h.1[p]? = some (hp_a, .inl (10, [some (p + 1), none, none, none]))) (hx : h.1[(p + 1)]? = some (hx_a, .inr (0, 960)))
    (H : zR x ∧ ((x < 0 → Qv 0) ∧ (¬ (x < 0) → zR (h.2.1 p 2) ∧ (((h.2.1 p 2) ≤ x → Qv 0) ∧ (¬ ((h.2.1 p 2) ≤ x) → zR y ∧ ((y < 0 → Qv 0) ∧ (¬ (y < 0) → zR (h.2.1 p 3) ∧ (((h.2.1 p 3) ≤ y → Qv 0) ∧ (¬ ((h.2.1 p 3) ≤ y) → Qv 1))))))))) :
    fx_Mq l M_PI_has [.ref p, .int (zI x), .int (zI y)] h Qv := by
  refine fn_entry (ls := [some (.ref p), some (.int (zI x)), some (.int (zI y))]) (by decide) (Nat.le_of_ble_eq_true rfl) rfl ?_
  refine fn_iload_n (i := 1) d_PI_has_0 rfl rfl ?_
  obtain ⟨hz1, H⟩ := H
  refine fn_if_lt (t := 28) (n := 4) d_PI_has_1 hz1 (fun z2 => ?_) (fun z2 => ?_)
  · replace H := H.1 z2
    refine fn_iconst d_PI_has_28 ?_
    exact fn_end 0 ⟨⟨_, rfl, rfl⟩, d_PI_has_29⟩ H
  · replace H := H.2 z2
    refine fn_iload_n (i := 1) d_PI_has_4 rfl rfl ?_
    refine fn_aload_n (i := 0) d_PI_has_5 rfl rfl ?_
    refine fn_getI d_PI_has_6 lk_PI_15 hp rfl ?_
    obtain ⟨hz3, H⟩ := H
    refine fn_icmp_ge (t := 28) (n := 12) d_PI_has_9 hz1 hz3 (fun z4 => ?_) (fun z4 => ?_)
    · replace H := H.1 z4
      refine fn_iconst d_PI_has_28 ?_
      exact fn_end 0 ⟨⟨_, rfl, rfl⟩, d_PI_has_29⟩ H
    · replace H := H.2 z4
      refine fn_iload_n (i := 2) d_PI_has_12 rfl rfl ?_
      obtain ⟨hz5, H⟩ := H
      refine fn_if_lt (t := 28) (n := 16) d_PI_has_13 hz5 (fun z6 => ?_) (fun z6 => ?_)
      · replace H := H.1 z6
        refine fn_iconst d_PI_has_28 ?_
        exact fn_end 0 ⟨⟨_, rfl, rfl⟩, d_PI_has_29⟩ H
      · replace H := H.2 z6
        refine fn_iload_n (i := 2) d_PI_has_16 rfl rfl ?_
        refine fn_aload_n (i := 0) d_PI_has_17 rfl rfl ?_
        refine fn_getI d_PI_has_18 lk_PI_19 hp rfl ?_
        obtain ⟨hz7, H⟩ := H
        refine fn_icmp_ge (t := 28) (n := 24) d_PI_has_21 hz5 hz7 (fun z8 => ?_) (fun z8 => ?_)
        · replace H := H.1 z8
          refine fn_iconst d_PI_has_28 ?_
          exact fn_end 0 ⟨⟨_, rfl, rfl⟩, d_PI_has_29⟩ H
        · replace H := H.2 z8
          refine fn_iconst d_PI_has_24 ?_
          refine fn_goto (n := 29) d_PI_has_25 ?_
          exact fn_end 1 ⟨⟨_, rfl, rfl⟩, d_PI_has_29⟩ H
theorem en_FP_isByte {l : Launch} {Qv : Int → Prop} {h : fx_H}  {b : Int}  {a : Nat → Nat} {pp dd : Nat} (hS : h.1 = fx_S0 a pp dd) 
    (H : zR b ∧ ((b < 0 → Qv 0) ∧ (¬ (b < 0) → ((255 < b → Qv 0) ∧ (¬ (255 < b) → Qv 1))))) :
    fx_Mq l M_FP_isByte [.int (zI b)] h Qv := by
  refine fn_entry (ls := [some (.int (zI b))]) (by decide) (Nat.le_of_ble_eq_true rfl) rfl ?_
  refine fn_iload_n (i := 0) d_FP_isByte_0 rfl rfl ?_
  obtain ⟨hz1, H⟩ := H
  refine fn_if_lt (t := 15) (n := 4) d_FP_isByte_1 hz1 (fun z2 => ?_) (fun z2 => ?_)
  · replace H := H.1 z2
    refine fn_iconst d_FP_isByte_15 ?_
    exact fn_end 0 ⟨⟨_, rfl, rfl⟩, d_FP_isByte_16⟩ H
  · replace H := H.2 z2
    refine fn_iload_n (i := 0) d_FP_isByte_4 rfl rfl ?_
    refine fn_sipush (v := 255) d_FP_isByte_5 rfl ?_
    refine fn_icmp_gt (t := 15) (n := 11) d_FP_isByte_8 hz1 (show zR 255 by decide) (fun z3 => ?_) (fun z3 => ?_)
    · replace H := H.1 z3
      refine fn_iconst d_FP_isByte_15 ?_
      exact fn_end 0 ⟨⟨_, rfl, rfl⟩, d_FP_isByte_16⟩ H
    · replace H := H.2 z3
      refine fn_iconst d_FP_isByte_11 ?_
      refine fn_goto (n := 16) d_FP_isByte_12 ?_
      exact fn_end 1 ⟨⟨_, rfl, rfl⟩, d_FP_isByte_16⟩ H
theorem en_FP_sizeCanBe {l : Launch} {Qv : Int → Prop} {h : fx_H}  {g : Int} {x : Int} {y : Int}  {a : Nat → Nat} {pp dd : Nat} (hS : h.1 = fx_S0 a pp dd) 
    (H : zRL x ∧ (((zC x 1) < 0 → Qv 0) ∧ (¬ ((zC x 1) < 0) → zR g ∧ ((g = 0 → ((0 < (zC x 40) → Qv 0) ∧ (¬ (0 < (zC x 40)) → zRL y ∧ (((zC y 1) < 0 → Qv 0) ∧ (¬ ((zC y 1) < 0) → ((g = 0 → ((0 < (zC y 24) → Qv 0) ∧ (¬ (0 < (zC y 24)) → Qv 1))) ∧ (¬ (g = 0) → ((0 < (zC y 20) → Qv 0) ∧ (¬ (0 < (zC y 20)) → Qv 1))))))))) ∧ (¬ (g = 0) → ((0 < (zC x 20) → Qv 0) ∧ (¬ (0 < (zC x 20)) → zRL y ∧ (((zC y 1) < 0 → Qv 0) ∧ (¬ ((zC y 1) < 0) → ((g = 0 → ((0 < (zC y 24) → Qv 0) ∧ (¬ (0 < (zC y 24)) → Qv 1))) ∧ (¬ (g = 0) → ((0 < (zC y 20) → Qv 0) ∧ (¬ (0 < (zC y 20)) → Qv 1))))))))))))) :
    fx_Mq l M_FP_sizeCanBe [.int (zI g), .long (zL x), .long (zL y)] h Qv := by
  refine fn_entry (ls := [some (.int (zI g)), some (.long (zL x)), none, some (.long (zL y)), none]) (by decide) (Nat.le_of_ble_eq_true rfl) rfl ?_
  refine fn_lload_n (i := 1) d_FP_sizeCanBe_0 rfl rfl ?_
  refine fn_lconst (v := 1) d_FP_sizeCanBe_1 rfl ?_
  obtain ⟨hz1, H⟩ := H
  refine fn_lcmp d_FP_sizeCanBe_2 hz1 (show zRL 1 by decide) ?_
  refine fn_if_lt (t := 50) (n := 6) d_FP_sizeCanBe_3 (zC_R _ _) (fun z2 => ?_) (fun z2 => ?_)
  · replace H := H.1 z2
    refine fn_iconst d_FP_sizeCanBe_50 ?_
    exact fn_end 0 ⟨⟨_, rfl, rfl⟩, d_FP_sizeCanBe_51⟩ H
  · replace H := H.2 z2
    refine fn_lload_n (i := 1) d_FP_sizeCanBe_6 rfl rfl ?_
    refine fn_iload_n (i := 0) d_FP_sizeCanBe_7 rfl rfl ?_
    obtain ⟨hz3, H⟩ := H
    refine fn_if_eq (t := 16) (n := 11) d_FP_sizeCanBe_8 hz3 (fun z4 => ?_) (fun z4 => ?_)
    · replace H := H.1 z4
      refine fn_bipush (v := 40) d_FP_sizeCanBe_16 rfl ?_
      refine fn_i2l d_FP_sizeCanBe_18 (show zR 40 by decide) ?_
      refine fn_lcmp d_FP_sizeCanBe_19 hz1 (show zRL 40 by decide) ?_
      refine fn_if_gt (t := 50) (n := 23) d_FP_sizeCanBe_20 (zC_R _ _) (fun z5 => ?_) (fun z5 => ?_)
      · replace H := H.1 z5
        refine fn_iconst d_FP_sizeCanBe_50 ?_
        exact fn_end 0 ⟨⟨_, rfl, rfl⟩, d_FP_sizeCanBe_51⟩ H
      · replace H := H.2 z5
        refine fn_lload_n (i := 3) d_FP_sizeCanBe_23 rfl rfl ?_
        refine fn_lconst (v := 1) d_FP_sizeCanBe_24 rfl ?_
        obtain ⟨hz6, H⟩ := H
        refine fn_lcmp d_FP_sizeCanBe_25 hz6 (show zRL 1 by decide) ?_
        refine fn_if_lt (t := 50) (n := 29) d_FP_sizeCanBe_26 (zC_R _ _) (fun z7 => ?_) (fun z7 => ?_)
        · replace H := H.1 z7
          refine fn_iconst d_FP_sizeCanBe_50 ?_
          exact fn_end 0 ⟨⟨_, rfl, rfl⟩, d_FP_sizeCanBe_51⟩ H
        · replace H := H.2 z7
          refine fn_lload_n (i := 3) d_FP_sizeCanBe_29 rfl rfl ?_
          refine fn_iload_n (i := 0) d_FP_sizeCanBe_30 rfl rfl ?_
          refine fn_if_eq (t := 39) (n := 34) d_FP_sizeCanBe_31 hz3 (fun z8 => ?_) (fun z8 => ?_)
          · replace H := H.1 z8
            refine fn_bipush (v := 24) d_FP_sizeCanBe_39 rfl ?_
            refine fn_i2l d_FP_sizeCanBe_41 (show zR 24 by decide) ?_
            refine fn_lcmp d_FP_sizeCanBe_42 hz6 (show zRL 24 by decide) ?_
            refine fn_if_gt (t := 50) (n := 46) d_FP_sizeCanBe_43 (zC_R _ _) (fun z9 => ?_) (fun z9 => ?_)
            · replace H := H.1 z9
              refine fn_iconst d_FP_sizeCanBe_50 ?_
              exact fn_end 0 ⟨⟨_, rfl, rfl⟩, d_FP_sizeCanBe_51⟩ H
            · replace H := H.2 z9
              refine fn_iconst d_FP_sizeCanBe_46 ?_
              refine fn_goto (n := 51) d_FP_sizeCanBe_47 ?_
              exact fn_end 1 ⟨⟨_, rfl, rfl⟩, d_FP_sizeCanBe_51⟩ H
          · replace H := H.2 z8
            refine fn_bipush (v := 20) d_FP_sizeCanBe_34 rfl ?_
            refine fn_goto (n := 41) d_FP_sizeCanBe_36 ?_
            refine fn_i2l d_FP_sizeCanBe_41 (show zR 20 by decide) ?_
            refine fn_lcmp d_FP_sizeCanBe_42 hz6 (show zRL 20 by decide) ?_
            refine fn_if_gt (t := 50) (n := 46) d_FP_sizeCanBe_43 (zC_R _ _) (fun z10 => ?_) (fun z10 => ?_)
            · replace H := H.1 z10
              refine fn_iconst d_FP_sizeCanBe_50 ?_
              exact fn_end 0 ⟨⟨_, rfl, rfl⟩, d_FP_sizeCanBe_51⟩ H
            · replace H := H.2 z10
              refine fn_iconst d_FP_sizeCanBe_46 ?_
              refine fn_goto (n := 51) d_FP_sizeCanBe_47 ?_
              exact fn_end 1 ⟨⟨_, rfl, rfl⟩, d_FP_sizeCanBe_51⟩ H
    · replace H := H.2 z4
      refine fn_bipush (v := 20) d_FP_sizeCanBe_11 rfl ?_
      refine fn_goto (n := 18) d_FP_sizeCanBe_13 ?_
      refine fn_i2l d_FP_sizeCanBe_18 (show zR 20 by decide) ?_
      refine fn_lcmp d_FP_sizeCanBe_19 hz1 (show zRL 20 by decide) ?_
      refine fn_if_gt (t := 50) (n := 23) d_FP_sizeCanBe_20 (zC_R _ _) (fun z11 => ?_) (fun z11 => ?_)
      · replace H := H.1 z11
        refine fn_iconst d_FP_sizeCanBe_50 ?_
        exact fn_end 0 ⟨⟨_, rfl, rfl⟩, d_FP_sizeCanBe_51⟩ H
      · replace H := H.2 z11
        refine fn_lload_n (i := 3) d_FP_sizeCanBe_23 rfl rfl ?_
        refine fn_lconst (v := 1) d_FP_sizeCanBe_24 rfl ?_
        obtain ⟨hz12, H⟩ := H
        refine fn_lcmp d_FP_sizeCanBe_25 hz12 (show zRL 1 by decide) ?_
        refine fn_if_lt (t := 50) (n := 29) d_FP_sizeCanBe_26 (zC_R _ _) (fun z13 => ?_) (fun z13 => ?_)
        · replace H := H.1 z13
          refine fn_iconst d_FP_sizeCanBe_50 ?_
          exact fn_end 0 ⟨⟨_, rfl, rfl⟩, d_FP_sizeCanBe_51⟩ H
        · replace H := H.2 z13
          refine fn_lload_n (i := 3) d_FP_sizeCanBe_29 rfl rfl ?_
          refine fn_iload_n (i := 0) d_FP_sizeCanBe_30 rfl rfl ?_
          refine fn_if_eq (t := 39) (n := 34) d_FP_sizeCanBe_31 hz3 (fun z14 => ?_) (fun z14 => ?_)
          · replace H := H.1 z14
            refine fn_bipush (v := 24) d_FP_sizeCanBe_39 rfl ?_
            refine fn_i2l d_FP_sizeCanBe_41 (show zR 24 by decide) ?_
            refine fn_lcmp d_FP_sizeCanBe_42 hz12 (show zRL 24 by decide) ?_
            refine fn_if_gt (t := 50) (n := 46) d_FP_sizeCanBe_43 (zC_R _ _) (fun z15 => ?_) (fun z15 => ?_)
            · replace H := H.1 z15
              refine fn_iconst d_FP_sizeCanBe_50 ?_
              exact fn_end 0 ⟨⟨_, rfl, rfl⟩, d_FP_sizeCanBe_51⟩ H
            · replace H := H.2 z15
              refine fn_iconst d_FP_sizeCanBe_46 ?_
              refine fn_goto (n := 51) d_FP_sizeCanBe_47 ?_
              exact fn_end 1 ⟨⟨_, rfl, rfl⟩, d_FP_sizeCanBe_51⟩ H
          · replace H := H.2 z14
            refine fn_bipush (v := 20) d_FP_sizeCanBe_34 rfl ?_
            refine fn_goto (n := 41) d_FP_sizeCanBe_36 ?_
            refine fn_i2l d_FP_sizeCanBe_41 (show zR 20 by decide) ?_
            refine fn_lcmp d_FP_sizeCanBe_42 hz12 (show zRL 20 by decide) ?_
            refine fn_if_gt (t := 50) (n := 46) d_FP_sizeCanBe_43 (zC_R _ _) (fun z16 => ?_) (fun z16 => ?_)
            · replace H := H.1 z16
              refine fn_iconst d_FP_sizeCanBe_50 ?_
              exact fn_end 0 ⟨⟨_, rfl, rfl⟩, d_FP_sizeCanBe_51⟩ H
            · replace H := H.2 z16
              refine fn_iconst d_FP_sizeCanBe_46 ?_
              refine fn_goto (n := 51) d_FP_sizeCanBe_47 ?_
              exact fn_end 1 ⟨⟨_, rfl, rfl⟩, d_FP_sizeCanBe_51⟩ H
theorem en_FP_isFax {l : Launch} {Qv : Int → Prop} {h : fx_H}  {s : Int}  {a : Nat → Nat} {pp dd : Nat} (hS : h.1 = fx_S0 a pp dd) 
    (H : zRL s ∧ (((zC s 3) = 0 → Qv 1) ∧ (¬ ((zC s 3) = 0) → ((¬ (zC s 4) = 0 → Qv 0) ∧ ((zC s 4) = 0 → Qv 1))))) :
    fx_Mq l M_FP_isFax [.long (zL s)] h Qv := by
  refine fn_entry (ls := [some (.long (zL s)), none]) (by decide) (Nat.le_of_ble_eq_true rfl) rfl ?_
  refine fn_lload_n (i := 0) d_FP_isFax_0 rfl rfl ?_
  refine fn_ldc2 (v := 3) d_FP_isFax_1 (fx_in 413 (by decide +kernel) rfl) ?_
  obtain ⟨hz1, H⟩ := H
  refine fn_lcmp d_FP_isFax_4 hz1 (show zRL 3 by decide) ?_
  refine fn_if_eq (t := 16) (n := 8) d_FP_isFax_5 (zC_R _ _) (fun z2 => ?_) (fun z2 => ?_)
  · replace H := H.1 z2
    refine fn_iconst d_FP_isFax_16 ?_
    refine fn_goto (n := 21) d_FP_isFax_17 ?_
    exact fn_end 1 ⟨⟨_, rfl, rfl⟩, d_FP_isFax_21⟩ H
  · replace H := H.2 z2
    refine fn_lload_n (i := 0) d_FP_isFax_8 rfl rfl ?_
    refine fn_ldc2 (v := 4) d_FP_isFax_9 (fx_in 414 (by decide +kernel) rfl) ?_
    refine fn_lcmp d_FP_isFax_12 hz1 (show zRL 4 by decide) ?_
    refine fn_if_ne (t := 20) (n := 16) d_FP_isFax_13 (zC_R _ _) (fun z3 => ?_) (fun z3 => ?_)
    · replace H := H.1 z3
      refine fn_iconst d_FP_isFax_20 ?_
      exact fn_end 0 ⟨⟨_, rfl, rfl⟩, d_FP_isFax_21⟩ H
    · replace H := H.2 z3
      refine fn_iconst d_FP_isFax_16 ?_
      refine fn_goto (n := 21) d_FP_isFax_17 ?_
      exact fn_end 1 ⟨⟨_, rfl, rfl⟩, d_FP_isFax_21⟩ H
theorem en_FP_isScheme {l : Launch} {Qv : Int → Prop} {h : fx_H}  {s : Int}  {a : Nat → Nat} {pp dd : Nat} (hS : h.1 = fx_S0 a pp dd) 
    (H : zRL s ∧ (((zC s 1) = 0 → Qv 1) ∧ (¬ ((zC s 1) = 0) → (((zC s 32773) = 0 → Qv 1) ∧ (¬ ((zC s 32773) = 0) → (((zC s 5) = 0 → Qv 1) ∧ (¬ ((zC s 5) = 0) → fx_Mq l M_FP_isFax [.long (zL s)] h (fun r7 => zR r7 ∧ ((r7 = 0 → Qv 0) ∧ (¬ (r7 = 0) → Qv 1)))))))))) :
    fx_Mq l M_FP_isScheme [.long (zL s)] h Qv := by
  refine fn_entry (ls := [some (.long (zL s)), none]) (by decide) (Nat.le_of_ble_eq_true rfl) rfl ?_
  refine fn_lload_n (i := 0) d_FP_isScheme_0 rfl rfl ?_
  refine fn_lconst (v := 1) d_FP_isScheme_1 rfl ?_
  obtain ⟨hz1, H⟩ := H
  refine fn_lcmp d_FP_isScheme_2 hz1 (show zRL 1 by decide) ?_
  refine fn_if_eq (t := 29) (n := 6) d_FP_isScheme_3 (zC_R _ _) (fun z2 => ?_) (fun z2 => ?_)
  · replace H := H.1 z2
    refine fn_iconst d_FP_isScheme_29 ?_
    refine fn_goto (n := 34) d_FP_isScheme_30 ?_
    exact fn_end 1 ⟨⟨_, rfl, rfl⟩, d_FP_isScheme_34⟩ H
  · replace H := H.2 z2
    refine fn_lload_n (i := 0) d_FP_isScheme_6 rfl rfl ?_
    refine fn_ldc2 (v := 32773) d_FP_isScheme_7 (fx_in 408 (by decide +kernel) rfl) ?_
    refine fn_lcmp d_FP_isScheme_10 hz1 (show zRL 32773 by decide) ?_
    refine fn_if_eq (t := 29) (n := 14) d_FP_isScheme_11 (zC_R _ _) (fun z3 => ?_) (fun z3 => ?_)
    · replace H := H.1 z3
      refine fn_iconst d_FP_isScheme_29 ?_
      refine fn_goto (n := 34) d_FP_isScheme_30 ?_
      exact fn_end 1 ⟨⟨_, rfl, rfl⟩, d_FP_isScheme_34⟩ H
    · replace H := H.2 z3
      refine fn_lload_n (i := 0) d_FP_isScheme_14 rfl rfl ?_
      refine fn_ldc2 (v := 5) d_FP_isScheme_15 (fx_in 409 (by decide +kernel) rfl) ?_
      refine fn_lcmp d_FP_isScheme_18 hz1 (show zRL 5 by decide) ?_
      refine fn_if_eq (t := 29) (n := 22) d_FP_isScheme_19 (zC_R _ _) (fun z4 => ?_) (fun z4 => ?_)
      · replace H := H.1 z4
        refine fn_iconst d_FP_isScheme_29 ?_
        refine fn_goto (n := 34) d_FP_isScheme_30 ?_
        exact fn_end 1 ⟨⟨_, rfl, rfl⟩, d_FP_isScheme_34⟩ H
      · replace H := H.2 z4
        refine fn_lload_n (i := 0) d_FP_isScheme_22 rfl rfl ?_
        refine fn_callS (M' := M_FP_isFax) (vs := [.long (zL s)]) (rest := []) d_FP_isScheme_23 ca_FP_isScheme_132 rfl rfl (Nat.le_of_ble_eq_true rfl) H (fun r7 H => ?_)
        obtain ⟨hz8, H⟩ := H
        refine fn_if_eq (t := 33) (n := 29) d_FP_isScheme_26 hz8 (fun z9 => ?_) (fun z9 => ?_)
        · replace H := H.1 z9
          refine fn_iconst d_FP_isScheme_33 ?_
          exact fn_end 0 ⟨⟨_, rfl, rfl⟩, d_FP_isScheme_34⟩ H
        · replace H := H.2 z9
          refine fn_iconst d_FP_isScheme_29 ?_
          refine fn_goto (n := 34) d_FP_isScheme_30 ?_
          exact fn_end 1 ⟨⟨_, rfl, rfl⟩, d_FP_isScheme_34⟩ H
/-- the answer says whether P -/
def fx_yn (P : Prop) : Int → Prop := fun r => (r = 1 ∧ P) ∨ (r = 0 ∧ ¬ P)
theorem yn1 {P : Prop} (h : P) : fx_yn P 1 := Or.inl ⟨rfl, h⟩
theorem yn0 {P : Prop} (h : ¬ P) : fx_yn P 0 := Or.inr ⟨rfl, h⟩
section QN
variable {l : Launch} {h : fx_H} {a : Nat → Nat} {pp dd : Nat} {L : List Int}
theorem q_BYhas {x b : Int} (hS : h.1 = fx_S0 a pp dd) (c : cL h L b) (hx : zR x) : fx_Mq l M_BY_has [.ref 1, .int (zI x)] h (fx_yn (0 ≤ x ∧ x < L.length)) := by
  have hl := c.2.2.2.1
  refine en_BY_has hS ?_
  rw [show h.2.1 1 1 = L.length from c.1.len]
  exact ⟨hx, fun z => yn0 (by omega), fun z => ⟨by omega, fun z2 => yn0 (by omega), fun z2 => yn1 (by omega)⟩⟩
theorem q_PIhas {p : Nat} {x y : Int} (ok : fp_ok h p) (hx : zR x) (hy : zR y) : fx_Mq l M_PI_has [.ref p, .int (zI x), .int (zI y)] h (fx_yn (fp_in h p x y)) := by
  obtain ⟨⟨a, h1⟩, ⟨b, h2⟩, hg, hw1, hw2, hh1, hh2⟩ := ok
  refine en_PI_has h1 h2 ⟨hx, fun z => yn0 (fun q => ?_), fun z => ⟨by omega, fun z2 => yn0 (fun q => ?_), fun z2 => ⟨hy, fun z3 => yn0 (fun q => ?_), fun z3 => ⟨by omega, fun z4 => yn0 (fun q => ?_), fun z4 => yn1 ⟨?_, ?_, ?_, ?_⟩⟩⟩⟩⟩ <;> (try obtain ⟨q1, q2, q3, q4⟩ := q) <;> omega
theorem q_isByte {x : Int} (hS : h.1 = fx_S0 a pp dd) (hx : zR x) : fx_Mq l M_FP_isByte [.int (zI x)] h (fx_yn (0 ≤ x ∧ x < 256)) :=
  en_FP_isByte hS ⟨hx, fun z => yn0 (by omega), fun z => ⟨fun z2 => yn0 (by omega), fun z2 => yn1 (by omega)⟩⟩
theorem q_isFax {s : Int} (hS : h.1 = fx_S0 a pp dd) (hs : zRL s) : fx_Mq l M_FP_isFax [.long (zL s)] h (fx_yn (s = 3 ∨ s = 4)) := by
  have i3 := @zC_0 s 3
  have i4 := @zC_0 s 4
  exact en_FP_isFax hS ⟨hs, fun z => yn1 (by omega), fun z => ⟨fun z2 => yn0 (by omega), fun z2 => yn1 (by omega)⟩⟩
theorem fx_Mq.mono {M : fx_M} {vs : List Value} {P P2 : Int → Prop} (hM : fx_Mq l M vs h P) (hP : ∀ r, P r → P2 r) : fx_Mq l M vs h P2 := by
  intro D g tb sz p e ha hc hk s m args below hf happ hpre hK
  obtain ⟨n, o, h1, h2, h3, ⟨r, h4, h5, h6⟩, h7⟩ := hM D g tb sz p e ha hc hk s m args below hf happ hpre hK
  exact ⟨n, o, h1, h2, h3, ⟨r, h4, hP r h5, h6⟩, h7⟩
theorem q_isScheme {s : Int} (hS : h.1 = fx_S0 a pp dd) (hs : zRL s) : fx_Mq l M_FP_isScheme [.long (zL s)] h (fx_yn (s = 1 ∨ s = 32773 ∨ s = 5 ∨ s = 3 ∨ s = 4)) := by
  have i1 := @zC_0 s 1
  have i2 := @zC_0 s 32773
  have i5 := @zC_0 s 5
  refine en_FP_isScheme hS ⟨hs, fun z => yn1 (by omega), fun z => ⟨fun z2 => yn1 (by omega), fun z2 => ⟨fun z3 => yn1 (by omega), fun z3 => (q_isFax hS hs).mono fun r q => ?_⟩⟩⟩
  rcases q with ⟨q1, q2⟩ | ⟨q1, q2⟩
  · subst q1
    exact ⟨by omega, fun z4 => by omega, fun _ => yn1 (by omega)⟩
  · subst q1
    exact ⟨by omega, fun _ => yn0 (by omega), fun z4 => absurd rfl z4⟩
theorem q_sizeCanBe {g x y : Int} (hS : h.1 = fx_S0 a pp dd) (hg : g = 0 ∨ g = 1) (hx : zRL x) (hy : zRL y) : fx_Mq l M_FP_sizeCanBe [.int (zI g), .long (zL x), .long (zL y)] h (fx_yn (szOK g x y)) := by
  have i1 := @zC_lt x 1
  have i2 := @zC_gt x 40
  have i3 := @zC_gt x 20
  have i4 := @zC_lt y 1
  have i5 := @zC_gt y 24
  have i6 := @zC_gt y 20
  unfold szOK
  rcases hg with rfl | rfl
  · simp only [if_true]
    refine en_FP_sizeCanBe hS ⟨hx, fun z => yn0 (by omega), fun z => ⟨by omega, fun _ => ⟨fun z2 => yn0 (by omega), fun z2 => ⟨hy, fun z3 => yn0 (by omega), fun z3 => ⟨fun _ => ⟨fun z4 => yn0 (by omega), fun z4 => yn1 (by omega)⟩, fun z4 => absurd rfl z4⟩⟩⟩, fun z2 => absurd rfl z2⟩⟩
  · rw [if_neg (by omega), if_neg (by omega)]
    refine en_FP_sizeCanBe hS ⟨hx, fun z => yn0 (by omega), fun z => ⟨by omega, fun z2 => by omega, fun _ => ⟨fun z2 => yn0 (by omega), fun z2 => ⟨hy, fun z3 => yn0 (by omega), fun z3 => ⟨fun z4 => by omega, fun _ => ⟨fun z4 => yn0 (by omega), fun z4 => yn1 (by omega)⟩⟩⟩⟩⟩⟩
end QN
