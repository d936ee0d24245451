/-! what is owed of the numbers, by program (wip/printvc.py) -/
set_option maxRecDepth 100000 in
set_option maxHeartbeats 4000000 in
theorem e_PI_has {l : Launch} {Q : Option Value → fx_H → Prop} {h : fx_H} {p : Nat} {x : Int} {y : Int} {hp_a : Nat} {hx_a : Nat} (hp : h.1[p]? = some (hp_a, .inl (10, [some (p + 1), none, none, none]))) (hx : h.1[(p + 1)]? = some (hx_a, .inr (0, 960)))
    (H : zR x ∧ ((x < 0 → Q (some (.int (zI 0))) h) ∧ (¬ (x < 0) → zR (h.2.1 p 2) ∧ (((h.2.1 p 2) ≤ x → Q (some (.int (zI 0))) h) ∧ (¬ ((h.2.1 p 2) ≤ x) → zR y ∧ ((y < 0 → Q (some (.int (zI 0))) h) ∧ (¬ (y < 0) → zR (h.2.1 p 3) ∧ (((h.2.1 p 3) ≤ y → Q (some (.int (zI 0))) h) ∧ (¬ ((h.2.1 p 3) ≤ y) → Q (some (.int (zI 1))) h))))))))) :
    fx_Mt l M_PI_has (0, 0) [.ref p, .int (zI x), .int (zI y)] h Q := by
  refine fx_entry (ls := [some (.ref p), some (.int (zI x)), some (.int (zI y))]) (by decide) (Nat.le_of_ble_eq_true rfl) rfl ?_
  refine fx_iload_n (i := 1) d_PI_has_0 rfl rfl ?_
  obtain ⟨hz1, H⟩ := H
  refine fx_if_lt (t := 28) (n := 4) d_PI_has_1 hz1 (fun z2 => ?_) (fun z2 => ?_)
  · replace H := H.1 z2
    refine fx_iconst d_PI_has_28 ?_
    exact fx_end (some (.int (zI 0))) ⟨⟨_, rfl, rfl⟩, d_PI_has_29⟩ (Nat.le_refl _) (Nat.le_refl _) rfl H
  · replace H := H.2 z2
    refine fx_iload_n (i := 1) d_PI_has_4 rfl rfl ?_
    refine fx_aload_n (i := 0) d_PI_has_5 rfl rfl ?_
    refine fx_getI d_PI_has_6 lk_PI_15 hp rfl ?_
    obtain ⟨hz3, H⟩ := H
    refine fx_icmp_ge (t := 28) (n := 12) d_PI_has_9 hz1 hz3 (fun z4 => ?_) (fun z4 => ?_)
    · replace H := H.1 z4
      refine fx_iconst d_PI_has_28 ?_
      exact fx_end (some (.int (zI 0))) ⟨⟨_, rfl, rfl⟩, d_PI_has_29⟩ (Nat.le_refl _) (Nat.le_refl _) rfl H
    · replace H := H.2 z4
      refine fx_iload_n (i := 2) d_PI_has_12 rfl rfl ?_
      obtain ⟨hz5, H⟩ := H
      refine fx_if_lt (t := 28) (n := 16) d_PI_has_13 hz5 (fun z6 => ?_) (fun z6 => ?_)
      · replace H := H.1 z6
        refine fx_iconst d_PI_has_28 ?_
        exact fx_end (some (.int (zI 0))) ⟨⟨_, rfl, rfl⟩, d_PI_has_29⟩ (Nat.le_refl _) (Nat.le_refl _) rfl H
      · replace H := H.2 z6
        refine fx_iload_n (i := 2) d_PI_has_16 rfl rfl ?_
        refine fx_aload_n (i := 0) d_PI_has_17 rfl rfl ?_
        refine fx_getI d_PI_has_18 lk_PI_19 hp rfl ?_
        obtain ⟨hz7, H⟩ := H
        refine fx_icmp_ge (t := 28) (n := 24) d_PI_has_21 hz5 hz7 (fun z8 => ?_) (fun z8 => ?_)
        · replace H := H.1 z8
          refine fx_iconst d_PI_has_28 ?_
          exact fx_end (some (.int (zI 0))) ⟨⟨_, rfl, rfl⟩, d_PI_has_29⟩ (Nat.le_refl _) (Nat.le_refl _) rfl H
        · replace H := H.2 z8
          refine fx_iconst d_PI_has_24 ?_
          refine fx_goto (n := 29) d_PI_has_25 ?_
          exact fx_end (some (.int (zI 1))) ⟨⟨_, rfl, rfl⟩, d_PI_has_29⟩ (Nat.le_refl _) (Nat.le_refl _) rfl H

set_option maxRecDepth 100000 in
set_option maxHeartbeats 4000000 in
theorem e_PI_pixel {l : Launch} {Q : Option Value → fx_H → Prop} {h : fx_H} {p : Nat} {x : Int} {y : Int} {hp_a : Nat} {hx_a : Nat} (hp : h.1[p]? = some (hp_a, .inl (10, [some (p + 1), none, none, none]))) (hx : h.1[(p + 1)]? = some (hx_a, .inr (0, 960)))
    (H : fx_Mt l M_PI_has (0, 0) [.ref p, .int (zI x), .int (zI y)] h (fun v h1 => ∃ r3 : Int, v = some (.int (zI r3)) ∧ h1.1 = h.1 ∧ zR r3 ∧ ((r3 = 0 → Q (some (.int (zI 0))) h1) ∧ (¬ (r3 = 0) → 0 ≤ ((y * (h1.2.1 p 2)) + x) ∧ ((y * (h1.2.1 p 2)) + x) < 960 ∧ Q (some (.int (zI (h1.2.2.1 ((p + 1)) (((y * (h1.2.1 p 2)) + x).toNat))))) h1)))) :
    fx_Mt l M_PI_pixel (0, 0) [.ref p, .int (zI x), .int (zI y)] h Q := by
  refine fx_entry (ls := [some (.ref p), some (.int (zI x)), some (.int (zI y))]) (by decide) (Nat.le_of_ble_eq_true rfl) rfl ?_
  refine fx_aload_n (i := 0) d_PI_pixel_0 rfl rfl ?_
  refine fx_iload_n (i := 1) d_PI_pixel_1 rfl rfl ?_
  refine fx_iload_n (i := 2) d_PI_pixel_2 rfl rfl ?_
  refine fx_callV (M' := M_PI_has) (B' := (0, 0)) (vs := [.int (zI x), .int (zI y)]) (rest := []) (c1 := 0) (s1 := 0) (n := 6) d_PI_pixel_3 ca_PI_pixel_32 hp rfl rfl rfl ⟨by decide, by decide⟩ (Nat.le_of_ble_eq_true rfl) (Or.inl rfl) (fx_Mt.mono H fun v h1 hv => ?_)
  obtain ⟨r3, rfl, e2, H⟩ := hv
  have hp1 : h1.1[p]? = some (hp_a, .inl (10, [some (p + 1), none, none, none])) := by rw [e2]; exact hp
  have hx1 : h1.1[(p + 1)]? = some (hx_a, .inr (0, 960)) := by rw [e2]; exact hx
  show fx_V l M_PI_pixel (0, 0) Q 0 0 6 [some (.ref p), some (.int (zI x)), some (.int (zI y))] [.int (zI r3)] h1
  obtain ⟨hz4, H⟩ := H
  refine fx_if_eq (t := 25) (n := 9) d_PI_pixel_6 hz4 (fun z5 => ?_) (fun z5 => ?_)
  · replace H := H.1 z5
    refine fx_iconst d_PI_pixel_25 ?_
    exact fx_end (some (.int (zI 0))) ⟨⟨_, rfl, rfl⟩, d_PI_pixel_26⟩ (Nat.le_refl _) (Nat.le_refl _) rfl H
  · replace H := H.2 z5
    refine fx_aload_n (i := 0) d_PI_pixel_9 rfl rfl ?_
    refine fx_getR (q := (p + 1)) d_PI_pixel_10 lk_PI_9 hp1 rfl rfl ?_
    refine fx_iload_n (i := 2) d_PI_pixel_13 rfl rfl ?_
    refine fx_aload_n (i := 0) d_PI_pixel_14 rfl rfl ?_
    refine fx_getI d_PI_pixel_15 lk_PI_15 hp1 rfl ?_
    refine fx_imul d_PI_pixel_18 ?_
    refine fx_iload_n (i := 1) d_PI_pixel_19 rfl rfl ?_
    refine fx_iadd d_PI_pixel_20 ?_
    obtain ⟨hn6, H⟩ := H
    obtain ⟨hn7, H⟩ := H
    refine fx_iald d_PI_pixel_21 hx1 hn6 hn7 (by decide) ?_
    refine fx_goto (n := 26) d_PI_pixel_22 ?_
    exact fx_end (some (.int (zI (h1.2.2.1 ((p + 1)) (((y * (h1.2.1 p 2)) + x).toNat))))) ⟨⟨_, rfl, rfl⟩, d_PI_pixel_26⟩ (Nat.le_refl _) (Nat.le_refl _) rfl H

set_option maxRecDepth 100000 in
set_option maxHeartbeats 4000000 in
theorem e_PI_paint {l : Launch} {Q : Option Value → fx_H → Prop} {h : fx_H} {p : Nat} {x : Int} {y : Int} {u : Int} {hp_a : Nat} {hx_a : Nat} (hp : h.1[p]? = some (hp_a, .inl (10, [some (p + 1), none, none, none]))) (hx : h.1[(p + 1)]? = some (hx_a, .inr (0, 960)))
    (H : fx_Mt l M_PI_has (0, 0) [.ref p, .int (zI x), .int (zI y)] h (fun v h1 => ∃ r3 : Int, v = some (.int (zI r3)) ∧ h1.1 = h.1 ∧ zR r3 ∧ ((r3 = 0 → Q none h1) ∧ (¬ (r3 = 0) → 0 ≤ ((y * (h1.2.1 p 2)) + x) ∧ ((y * (h1.2.1 p 2)) + x) < 960 ∧ Q none (fx_uA h1 ((p + 1)) (((y * (h1.2.1 p 2)) + x).toNat) u))))) :
    fx_Mt l M_PI_paint (0, 0) [.ref p, .int (zI x), .int (zI y), .int (zI u)] h Q := by
  refine fx_entry (ls := [some (.ref p), some (.int (zI x)), some (.int (zI y)), some (.int (zI u))]) (by decide) (Nat.le_of_ble_eq_true rfl) rfl ?_
  refine fx_aload_n (i := 0) d_PI_paint_0 rfl rfl ?_
  refine fx_iload_n (i := 1) d_PI_paint_1 rfl rfl ?_
  refine fx_iload_n (i := 2) d_PI_paint_2 rfl rfl ?_
  refine fx_callV (M' := M_PI_has) (B' := (0, 0)) (vs := [.int (zI x), .int (zI y)]) (rest := []) (c1 := 0) (s1 := 0) (n := 6) d_PI_paint_3 ca_PI_paint_32 hp rfl rfl rfl ⟨by decide, by decide⟩ (Nat.le_of_ble_eq_true rfl) (Or.inl rfl) (fx_Mt.mono H fun v h1 hv => ?_)
  obtain ⟨r3, rfl, e2, H⟩ := hv
  have hp1 : h1.1[p]? = some (hp_a, .inl (10, [some (p + 1), none, none, none])) := by rw [e2]; exact hp
  have hx1 : h1.1[(p + 1)]? = some (hx_a, .inr (0, 960)) := by rw [e2]; exact hx
  show fx_V l M_PI_paint (0, 0) Q 0 0 6 [some (.ref p), some (.int (zI x)), some (.int (zI y)), some (.int (zI u))] [.int (zI r3)] h1
  obtain ⟨hz4, H⟩ := H
  refine fx_if_eq (t := 23) (n := 9) d_PI_paint_6 hz4 (fun z5 => ?_) (fun z5 => ?_)
  · replace H := H.1 z5
    exact fx_end none ⟨rfl, d_PI_paint_23⟩ (Nat.le_refl _) (Nat.le_refl _) rfl H
  · replace H := H.2 z5
    refine fx_aload_n (i := 0) d_PI_paint_9 rfl rfl ?_
    refine fx_getR (q := (p + 1)) d_PI_paint_10 lk_PI_9 hp1 rfl rfl ?_
    refine fx_iload_n (i := 2) d_PI_paint_13 rfl rfl ?_
    refine fx_aload_n (i := 0) d_PI_paint_14 rfl rfl ?_
    refine fx_getI d_PI_paint_15 lk_PI_15 hp1 rfl ?_
    refine fx_imul d_PI_paint_18 ?_
    refine fx_iload_n (i := 1) d_PI_paint_19 rfl rfl ?_
    refine fx_iadd d_PI_paint_20 ?_
    refine fx_iload_n (i := 3) d_PI_paint_21 rfl rfl ?_
    obtain ⟨hn6, H⟩ := H
    obtain ⟨hn7, H⟩ := H
    refine fx_iast d_PI_paint_22 hx1 hn6 hn7 (by decide) ?_
    exact fx_end none ⟨rfl, d_PI_paint_23⟩ (Nat.le_refl _) (Nat.le_refl _) rfl H

set_option maxRecDepth 100000 in
set_option maxHeartbeats 4000000 in
theorem e_PI_rowBytes {l : Launch} {Q : Option Value → fx_H → Prop} {h : fx_H} {p : Nat}  {hp_a : Nat} {hx_a : Nat} (hp : h.1[p]? = some (hp_a, .inl (10, [some (p + 1), none, none, none]))) (hx : h.1[(p + 1)]? = some (hx_a, .inr (0, 960)))
    (H : zR (h.2.1 p 1) ∧ (((h.2.1 p 1) = 0 → 0 ≤ ((h.2.1 p 2) + 7) ∧ zR ((h.2.1 p 2) + 7) ∧ Q (some (.int (zI (((h.2.1 p 2) + 7) / 8)))) h) ∧ (¬ ((h.2.1 p 1) = 0) → Q (some (.int (zI (h.2.1 p 2)))) h))) :
    fx_Mt l M_PI_rowBytes (0, 0) [.ref p] h Q := by
  refine fx_entry (ls := [some (.ref p)]) (by decide) (Nat.le_of_ble_eq_true rfl) rfl ?_
  refine fx_aload_n (i := 0) d_PI_rowBytes_0 rfl rfl ?_
  refine fx_getI d_PI_rowBytes_1 lk_PI_22 hp rfl ?_
  obtain ⟨hz1, H⟩ := H
  refine fx_if_eq (t := 14) (n := 7) d_PI_rowBytes_4 hz1 (fun z2 => ?_) (fun z2 => ?_)
  · replace H := H.1 z2
    refine fx_aload_n (i := 0) d_PI_rowBytes_14 rfl rfl ?_
    refine fx_getI d_PI_rowBytes_15 lk_PI_15 hp rfl ?_
    refine fx_bipush (v := 7) d_PI_rowBytes_18 rfl ?_
    refine fx_iadd d_PI_rowBytes_20 ?_
    refine fx_bipush (v := 8) d_PI_rowBytes_21 rfl ?_
    obtain ⟨hn3, H⟩ := H
    obtain ⟨hz4, H⟩ := H
    refine fx_idiv d_PI_rowBytes_23 hn3 hz4 (show (0 : Int) < 8 by decide) (show zR 8 by decide) ?_
    exact fx_end (some (.int (zI (((h.2.1 p 2) + 7) / 8)))) ⟨⟨_, rfl, rfl⟩, d_PI_rowBytes_24⟩ (Nat.le_refl _) (Nat.le_refl _) rfl H
  · replace H := H.2 z2
    refine fx_aload_n (i := 0) d_PI_rowBytes_7 rfl rfl ?_
    refine fx_getI d_PI_rowBytes_8 lk_PI_15 hp rfl ?_
    refine fx_goto (n := 24) d_PI_rowBytes_11 ?_
    exact fx_end (some (.int (zI (h.2.1 p 2)))) ⟨⟨_, rfl, rfl⟩, d_PI_rowBytes_24⟩ (Nat.le_refl _) (Nat.le_refl _) rfl H

set_option maxRecDepth 100000 in
set_option maxHeartbeats 4000000 in
theorem e_PI_rowByte {l : Launch} {Q : Option Value → fx_H → Prop} {h : fx_H} {p : Nat} {y : Int} {k : Int} {hp_a : Nat} {hx_a : Nat} (hp : h.1[p]? = some (hp_a, .inl (10, [some (p + 1), none, none, none]))) (hx : h.1[(p + 1)]? = some (hx_a, .inr (0, 960)))
    (H : zR (h.2.1 p 1) ∧ (((h.2.1 p 1) = 0 → (fx_V l M_PI_rowByte (0, 0) Q 0 0 22 [some (.ref p), some (.int (zI y)), some (.int (zI k)), some (.int (zI 0)), some (.int (zI (8 * k)))] [] h)) ∧ (¬ ((h.2.1 p 1) = 0) → fx_Mt l M_PI_pixel (0, 0) [.ref p, .int (zI k), .int (zI y)] h (fun v h3 => ∃ r5 : Int, v = some (.int (zI r5)) ∧ h3.1 = h.1 ∧ Q (some (.int (zI r5))) h3)))) :
    fx_Mt l M_PI_rowByte (0, 0) [.ref p, .int (zI y), .int (zI k)] h Q := by
  refine fx_entry (ls := [some (.ref p), some (.int (zI y)), some (.int (zI k)), none, none]) (by decide) (Nat.le_of_ble_eq_true rfl) rfl ?_
  refine fx_aload_n (i := 0) d_PI_rowByte_0 rfl rfl ?_
  refine fx_getI d_PI_rowByte_1 lk_PI_22 hp rfl ?_
  obtain ⟨hz1, H⟩ := H
  refine fx_if_eq (t := 14) (n := 7) d_PI_rowByte_4 hz1 (fun z2 => ?_) (fun z2 => ?_)
  · replace H := H.1 z2
    refine fx_iconst d_PI_rowByte_14 ?_
    refine fx_istore_n (i := 3) (ls2 := [some (.ref p), some (.int (zI y)), some (.int (zI k)), some (.int (zI 0)), none]) d_PI_rowByte_15 rfl (by decide) rfl ?_
    refine fx_bipush (v := 8) d_PI_rowByte_16 rfl ?_
    refine fx_iload_n (i := 2) d_PI_rowByte_18 rfl rfl ?_
    refine fx_imul d_PI_rowByte_19 ?_
    refine fx_istore (ls2 := [some (.ref p), some (.int (zI y)), some (.int (zI k)), some (.int (zI 0)), some (.int (zI (8 * k)))]) d_PI_rowByte_20 (by decide) rfl ?_
    exact H
  · replace H := H.2 z2
    refine fx_aload_n (i := 0) d_PI_rowByte_7 rfl rfl ?_
    refine fx_iload_n (i := 2) d_PI_rowByte_8 rfl rfl ?_
    refine fx_iload_n (i := 1) d_PI_rowByte_9 rfl rfl ?_
    refine fx_callV (M' := M_PI_pixel) (B' := (0, 0)) (vs := [.int (zI k), .int (zI y)]) (rest := []) (c1 := 0) (s1 := 0) (n := 13) d_PI_rowByte_10 ca_PI_rowByte_36 hp rfl rfl rfl ⟨by decide, by decide⟩ (Nat.le_of_ble_eq_true rfl) (Or.inl rfl) (fx_Mt.mono H fun v h3 hv => ?_)
    obtain ⟨r5, rfl, e4, H⟩ := hv
    have hp3 : h3.1[p]? = some (hp_a, .inl (10, [some (p + 1), none, none, none])) := by rw [e4]; exact hp
    have hx3 : h3.1[(p + 1)]? = some (hx_a, .inr (0, 960)) := by rw [e4]; exact hx
    show fx_V l M_PI_rowByte (0, 0) Q 0 0 13 [some (.ref p), some (.int (zI y)), some (.int (zI k)), none, none] [.int (zI r5)] h3
    exact fx_end (some (.int (zI r5))) ⟨⟨_, rfl, rfl⟩, d_PI_rowByte_13⟩ (Nat.le_refl _) (Nat.le_refl _) rfl H

set_option maxRecDepth 100000 in
set_option maxHeartbeats 4000000 in
theorem w_PI_rowByte_22 {l : Launch} {Q : Option Value → fx_H → Prop} {h : fx_H} {p : Nat} {x1 : Int} {x2 : Int} {x3 : Int} {x4 : Int} {hp_a : Nat} {hx_a : Nat} (hp : h.1[p]? = some (hp_a, .inl (10, [some (p + 1), none, none, none]))) (hx : h.1[(p + 1)]? = some (hx_a, .inr (0, 960)))
    (H : zR x4 ∧ zR ((8 * x2) + 8) ∧ ((((8 * x2) + 8) ≤ x4 → Q (some (.int (zI x3))) h) ∧ (¬ (((8 * x2) + 8) ≤ x4) → fx_Mt l M_PI_pixel (0, 0) [.ref p, .int (zI x4), .int (zI x1)] h (fun v h4 => ∃ r6 : Int, v = some (.int (zI r6)) ∧ h4.1 = h.1 ∧ 0 ≤ (x3 * 2 ^ 1) ∧ (x3 * 2 ^ 1) < 2147483648 ∧ 0 ≤ r6 ∧ r6 < 2147483648 ∧ (fx_V l M_PI_rowByte (0, 0) Q 0 0 22 [some (.ref p), some (.int (zI x1)), some (.int (zI x2)), some (.int (zI (zor (x3 * 2 ^ 1) r6))), some (.int (zI (x4 + 1)))] [] h4))))) :
    fx_V l M_PI_rowByte (0, 0) Q 0 0 22 [some (.ref p), some (.int (zI x1)), some (.int (zI x2)), some (.int (zI x3)), some (.int (zI x4))] [] h := by
  refine fx_iload d_PI_rowByte_22 rfl ?_
  refine fx_bipush (v := 8) d_PI_rowByte_24 rfl ?_
  refine fx_iload_n (i := 2) d_PI_rowByte_26 rfl rfl ?_
  refine fx_imul d_PI_rowByte_27 ?_
  refine fx_bipush (v := 8) d_PI_rowByte_28 rfl ?_
  refine fx_iadd d_PI_rowByte_30 ?_
  obtain ⟨hz1, H⟩ := H
  obtain ⟨hz2, H⟩ := H
  refine fx_icmp_ge (t := 52) (n := 34) d_PI_rowByte_31 hz1 hz2 (fun z3 => ?_) (fun z3 => ?_)
  · replace H := H.1 z3
    refine fx_iload_n (i := 3) d_PI_rowByte_52 rfl rfl ?_
    exact fx_end (some (.int (zI x3))) ⟨⟨_, rfl, rfl⟩, d_PI_rowByte_53⟩ (Nat.le_refl _) (Nat.le_refl _) rfl H
  · replace H := H.2 z3
    refine fx_iload_n (i := 3) d_PI_rowByte_34 rfl rfl ?_
    refine fx_iconst d_PI_rowByte_35 ?_
    refine fx_ishl (j := 1) d_PI_rowByte_36 (by decide) ?_
    refine fx_aload_n (i := 0) d_PI_rowByte_37 rfl rfl ?_
    refine fx_iload d_PI_rowByte_38 rfl ?_
    refine fx_iload_n (i := 1) d_PI_rowByte_40 rfl rfl ?_
    refine fx_callV (M' := M_PI_pixel) (B' := (0, 0)) (vs := [.int (zI x4), .int (zI x1)]) (rest := [.int (zI (x3 * 2 ^ 1))]) (c1 := 0) (s1 := 0) (n := 44) d_PI_rowByte_41 ca_PI_rowByte_36 hp rfl rfl rfl ⟨by decide, by decide⟩ (Nat.le_of_ble_eq_true rfl) (Or.inl rfl) (fx_Mt.mono H fun v h4 hv => ?_)
    obtain ⟨r6, rfl, e5, H⟩ := hv
    have hp4 : h4.1[p]? = some (hp_a, .inl (10, [some (p + 1), none, none, none])) := by rw [e5]; exact hp
    have hx4 : h4.1[(p + 1)]? = some (hx_a, .inr (0, 960)) := by rw [e5]; exact hx
    show fx_V l M_PI_rowByte (0, 0) Q 0 0 44 [some (.ref p), some (.int (zI x1)), some (.int (zI x2)), some (.int (zI x3)), some (.int (zI x4))] [.int (zI r6), .int (zI (x3 * 2 ^ 1))] h4
    obtain ⟨hn7, H⟩ := H
    obtain ⟨hn8, H⟩ := H
    obtain ⟨hn9, H⟩ := H
    obtain ⟨hn10, H⟩ := H
    refine fx_ior d_PI_rowByte_44 hn7 hn8 hn9 hn10 ?_
    refine fx_istore_n (i := 3) (ls2 := [some (.ref p), some (.int (zI x1)), some (.int (zI x2)), some (.int (zI (zor (x3 * 2 ^ 1) r6))), some (.int (zI x4))]) d_PI_rowByte_45 rfl (by decide) rfl ?_
    refine fx_iinc (v := x4 + 1) (ls2 := [some (.ref p), some (.int (zI x1)), some (.int (zI x2)), some (.int (zI (zor (x3 * 2 ^ 1) r6))), some (.int (zI (x4 + 1)))]) d_PI_rowByte_46 rfl rfl (by decide) rfl ?_
    refine fx_goto (n := 22) d_PI_rowByte_49 ?_
    exact H

set_option maxRecDepth 100000 in
set_option maxHeartbeats 4000000 in
theorem e_PI_paintRowByte {l : Launch} {Q : Option Value → fx_H → Prop} {h : fx_H} {p : Nat} {y : Int} {k : Int} {b : Int} {hp_a : Nat} {hx_a : Nat} (hp : h.1[p]? = some (hp_a, .inl (10, [some (p + 1), none, none, none]))) (hx : h.1[(p + 1)]? = some (hx_a, .inr (0, 960)))
    (H : zR (h.2.1 p 1) ∧ (((h.2.1 p 1) = 0 → (fx_V l M_PI_paintRowByte (0, 0) Q 0 0 19 [some (.ref p), some (.int (zI y)), some (.int (zI k)), some (.int (zI b)), some (.int (zI 0)), none] [] h)) ∧ (¬ ((h.2.1 p 1) = 0) → fx_Mt l M_PI_paint (0, 0) [.ref p, .int (zI k), .int (zI y), .int (zI b)] h (fun v h3 => v = none ∧ h3.1 = h.1 ∧ Q (some (.int (zI 1))) h3)))) :
    fx_Mt l M_PI_paintRowByte (0, 0) [.ref p, .int (zI y), .int (zI k), .int (zI b)] h Q := by
  refine fx_entry (ls := [some (.ref p), some (.int (zI y)), some (.int (zI k)), some (.int (zI b)), none, none]) (by decide) (Nat.le_of_ble_eq_true rfl) rfl ?_
  refine fx_aload_n (i := 0) d_PI_paintRowByte_0 rfl rfl ?_
  refine fx_getI d_PI_paintRowByte_1 lk_PI_22 hp rfl ?_
  obtain ⟨hz1, H⟩ := H
  refine fx_if_eq (t := 16) (n := 7) d_PI_paintRowByte_4 hz1 (fun z2 => ?_) (fun z2 => ?_)
  · replace H := H.1 z2
    refine fx_iconst d_PI_paintRowByte_16 ?_
    refine fx_istore (ls2 := [some (.ref p), some (.int (zI y)), some (.int (zI k)), some (.int (zI b)), some (.int (zI 0)), none]) d_PI_paintRowByte_17 (by decide) rfl ?_
    exact H
  · replace H := H.2 z2
    refine fx_aload_n (i := 0) d_PI_paintRowByte_7 rfl rfl ?_
    refine fx_iload_n (i := 2) d_PI_paintRowByte_8 rfl rfl ?_
    refine fx_iload_n (i := 1) d_PI_paintRowByte_9 rfl rfl ?_
    refine fx_iload_n (i := 3) d_PI_paintRowByte_10 rfl rfl ?_
    refine fx_callV (M' := M_PI_paint) (B' := (0, 0)) (vs := [.int (zI k), .int (zI y), .int (zI b)]) (rest := []) (c1 := 0) (s1 := 0) (n := 14) d_PI_paintRowByte_11 ca_PI_paintRowByte_40 hp rfl rfl rfl ⟨by decide, by decide⟩ (Nat.le_of_ble_eq_true rfl) (Or.inl rfl) (fx_Mt.mono H fun v h3 hv => ?_)
    obtain ⟨rfl, e4, H⟩ := hv
    have hp3 : h3.1[p]? = some (hp_a, .inl (10, [some (p + 1), none, none, none])) := by rw [e4]; exact hp
    have hx3 : h3.1[(p + 1)]? = some (hx_a, .inr (0, 960)) := by rw [e4]; exact hx
    show fx_V l M_PI_paintRowByte (0, 0) Q 0 0 14 [some (.ref p), some (.int (zI y)), some (.int (zI k)), some (.int (zI b)), none, none] [] h3
    refine fx_iconst d_PI_paintRowByte_14 ?_
    exact fx_end (some (.int (zI 1))) ⟨⟨_, rfl, rfl⟩, d_PI_paintRowByte_15⟩ (Nat.le_refl _) (Nat.le_refl _) rfl H

set_option maxRecDepth 100000 in
set_option maxHeartbeats 4000000 in
theorem w_PI_paintRowByte_19 {l : Launch} {Q : Option Value → fx_H → Prop} {h : fx_H} {p : Nat} {x1 : Int} {x2 : Int} {x3 : Int} {x4 : Int} {hp_a : Nat} {hx_a : Nat} (hp : h.1[p]? = some (hp_a, .inl (10, [some (p + 1), none, none, none]))) (hx : h.1[(p + 1)]? = some (hx_a, .inr (0, 960)))
    (H : zR x4 ∧ ((8 ≤ x4 → Q (some (.int (zI 1))) h) ∧ (¬ (8 ≤ x4) → (0 ≤ (7 - x4) ∧ (7 - x4) < 32) ∧ zR x3 ∧ zR ((x3 / 2 ^ (7 - x4).toNat) % 2) ∧ ((¬ ((x3 / 2 ^ (7 - x4).toNat) % 2) = 1 → fx_Mt l M_PI_paint (0, 0) [.ref p, .int (zI ((8 * x2) + x4)), .int (zI x1), .int (zI ((x3 / 2 ^ (7 - x4).toNat) % 2))] h (fun v h8 => v = none ∧ h8.1 = h.1 ∧ (fx_V l M_PI_paintRowByte (0, 0) Q 0 0 19 [some (.ref p), some (.int (zI x1)), some (.int (zI x2)), some (.int (zI x3)), some (.int (zI (x4 + 1))), none] [] h8))) ∧ (((x3 / 2 ^ (7 - x4).toNat) % 2) = 1 → fx_Mt l M_PI_has (0, 0) [.ref p, .int (zI ((8 * x2) + x4)), .int (zI x1)] h (fun v h10 => ∃ r12 : Int, v = some (.int (zI r12)) ∧ h10.1 = h.1 ∧ zR r12 ∧ ((¬ r12 = 0 → fx_Mt l M_PI_paint (0, 0) [.ref p, .int (zI ((8 * x2) + x4)), .int (zI x1), .int (zI ((x3 / 2 ^ (7 - x4).toNat) % 2))] h10 (fun v h15 => v = none ∧ h15.1 = h10.1 ∧ (fx_V l M_PI_paintRowByte (0, 0) Q 0 0 19 [some (.ref p), some (.int (zI x1)), some (.int (zI x2)), some (.int (zI x3)), some (.int (zI (x4 + 1))), none] [] h15))) ∧ (r12 = 0 → Q (some (.int (zI 0))) h10)))))))) :
    fx_V l M_PI_paintRowByte (0, 0) Q 0 0 19 [some (.ref p), some (.int (zI x1)), some (.int (zI x2)), some (.int (zI x3)), some (.int (zI x4)), none] [] h := by
  refine fx_iload d_PI_paintRowByte_19 rfl ?_
  refine fx_bipush (v := 8) d_PI_paintRowByte_21 rfl ?_
  obtain ⟨hz1, H⟩ := H
  refine fx_icmp_ge (t := 80) (n := 26) d_PI_paintRowByte_23 hz1 (show zR 8 by decide) (fun z2 => ?_) (fun z2 => ?_)
  · replace H := H.1 z2
    refine fx_iconst d_PI_paintRowByte_80 ?_
    exact fx_end (some (.int (zI 1))) ⟨⟨_, rfl, rfl⟩, d_PI_paintRowByte_81⟩ (Nat.le_refl _) (Nat.le_refl _) rfl H
  · replace H := H.2 z2
    refine fx_iload_n (i := 3) d_PI_paintRowByte_26 rfl rfl ?_
    refine fx_bipush (v := 7) d_PI_paintRowByte_27 rfl ?_
    refine fx_iload d_PI_paintRowByte_29 rfl ?_
    refine fx_isub d_PI_paintRowByte_31 ?_
    obtain ⟨hn3, H⟩ := H
    have ez4 : (((7 - x4).toNat : Nat) : Int) = 7 - x4 := Int.toNat_of_nonneg hn3.1
    refine fx_eqv (st2 := [(.int (zI (((7 - x4).toNat : Nat) : Int))), .int (zI x3)]) (by rw [ez4]) ?_
    obtain ⟨hz5, H⟩ := H
    refine fx_ishr (j := (7 - x4).toNat) d_PI_paintRowByte_32 hz5 (by omega) ?_
    refine fx_iconst d_PI_paintRowByte_33 ?_
    refine fx_and1 d_PI_paintRowByte_34 ?_
    refine fx_istore (ls2 := [some (.ref p), some (.int (zI x1)), some (.int (zI x2)), some (.int (zI x3)), some (.int (zI x4)), some (.int (zI ((x3 / 2 ^ (7 - x4).toNat) % 2)))]) d_PI_paintRowByte_35 (by decide) rfl ?_
    refine fx_iload d_PI_paintRowByte_37 rfl ?_
    refine fx_iconst d_PI_paintRowByte_39 ?_
    obtain ⟨hz6, H⟩ := H
    refine fx_icmp_ne (t := 60) (n := 43) d_PI_paintRowByte_40 hz6 (show zR 1 by decide) (fun z7 => ?_) (fun z7 => ?_)
    · replace H := H.1 z7
      refine fx_aload_n (i := 0) d_PI_paintRowByte_60 rfl rfl ?_
      refine fx_bipush (v := 8) d_PI_paintRowByte_61 rfl ?_
      refine fx_iload_n (i := 2) d_PI_paintRowByte_63 rfl rfl ?_
      refine fx_imul d_PI_paintRowByte_64 ?_
      refine fx_iload d_PI_paintRowByte_65 rfl ?_
      refine fx_iadd d_PI_paintRowByte_67 ?_
      refine fx_iload_n (i := 1) d_PI_paintRowByte_68 rfl rfl ?_
      refine fx_iload d_PI_paintRowByte_69 rfl ?_
      refine fx_callV (M' := M_PI_paint) (B' := (0, 0)) (vs := [.int (zI ((8 * x2) + x4)), .int (zI x1), .int (zI ((x3 / 2 ^ (7 - x4).toNat) % 2))]) (rest := []) (c1 := 0) (s1 := 0) (n := 74) d_PI_paintRowByte_71 ca_PI_paintRowByte_40 hp rfl rfl rfl ⟨by decide, by decide⟩ (Nat.le_of_ble_eq_true rfl) (Or.inl rfl) (fx_Mt.mono H fun v h8 hv => ?_)
      obtain ⟨rfl, e9, H⟩ := hv
      have hp8 : h8.1[p]? = some (hp_a, .inl (10, [some (p + 1), none, none, none])) := by rw [e9]; exact hp
      have hx8 : h8.1[(p + 1)]? = some (hx_a, .inr (0, 960)) := by rw [e9]; exact hx
      show fx_V l M_PI_paintRowByte (0, 0) Q 0 0 74 [some (.ref p), some (.int (zI x1)), some (.int (zI x2)), some (.int (zI x3)), some (.int (zI x4)), some (.int (zI ((x3 / 2 ^ (7 - x4).toNat) % 2)))] [] h8
      refine fx_iinc (v := x4 + 1) (ls2 := [some (.ref p), some (.int (zI x1)), some (.int (zI x2)), some (.int (zI x3)), some (.int (zI (x4 + 1))), some (.int (zI ((x3 / 2 ^ (7 - x4).toNat) % 2)))]) d_PI_paintRowByte_74 rfl rfl (by decide) rfl ?_
      refine fx_goto (n := 19) d_PI_paintRowByte_77 ?_
      exact fx_fewer [some (.ref p), some (.int (zI x1)), some (.int (zI x2)), some (.int (zI x3)), some (.int (zI (x4 + 1))), none] ⟨rfl, rfl, rfl, rfl, rfl, trivial⟩ H
    · replace H := H.2 z7
      refine fx_aload_n (i := 0) d_PI_paintRowByte_43 rfl rfl ?_
      refine fx_bipush (v := 8) d_PI_paintRowByte_44 rfl ?_
      refine fx_iload_n (i := 2) d_PI_paintRowByte_46 rfl rfl ?_
      refine fx_imul d_PI_paintRowByte_47 ?_
      refine fx_iload d_PI_paintRowByte_48 rfl ?_
      refine fx_iadd d_PI_paintRowByte_50 ?_
      refine fx_iload_n (i := 1) d_PI_paintRowByte_51 rfl rfl ?_
      refine fx_callV (M' := M_PI_has) (B' := (0, 0)) (vs := [.int (zI ((8 * x2) + x4)), .int (zI x1)]) (rest := []) (c1 := 0) (s1 := 0) (n := 55) d_PI_paintRowByte_52 ca_PI_paintRowByte_32 hp rfl rfl rfl ⟨by decide, by decide⟩ (Nat.le_of_ble_eq_true rfl) (Or.inl rfl) (fx_Mt.mono H fun v h10 hv => ?_)
      obtain ⟨r12, rfl, e11, H⟩ := hv
      have hp10 : h10.1[p]? = some (hp_a, .inl (10, [some (p + 1), none, none, none])) := by rw [e11]; exact hp
      have hx10 : h10.1[(p + 1)]? = some (hx_a, .inr (0, 960)) := by rw [e11]; exact hx
      show fx_V l M_PI_paintRowByte (0, 0) Q 0 0 55 [some (.ref p), some (.int (zI x1)), some (.int (zI x2)), some (.int (zI x3)), some (.int (zI x4)), some (.int (zI ((x3 / 2 ^ (7 - x4).toNat) % 2)))] [.int (zI r12)] h10
      obtain ⟨hz13, H⟩ := H
      refine fx_if_ne (t := 60) (n := 58) d_PI_paintRowByte_55 hz13 (fun z14 => ?_) (fun z14 => ?_)
      · replace H := H.1 z14
        refine fx_aload_n (i := 0) d_PI_paintRowByte_60 rfl rfl ?_
        refine fx_bipush (v := 8) d_PI_paintRowByte_61 rfl ?_
        refine fx_iload_n (i := 2) d_PI_paintRowByte_63 rfl rfl ?_
        refine fx_imul d_PI_paintRowByte_64 ?_
        refine fx_iload d_PI_paintRowByte_65 rfl ?_
        refine fx_iadd d_PI_paintRowByte_67 ?_
        refine fx_iload_n (i := 1) d_PI_paintRowByte_68 rfl rfl ?_
        refine fx_iload d_PI_paintRowByte_69 rfl ?_
        refine fx_callV (M' := M_PI_paint) (B' := (0, 0)) (vs := [.int (zI ((8 * x2) + x4)), .int (zI x1), .int (zI ((x3 / 2 ^ (7 - x4).toNat) % 2))]) (rest := []) (c1 := 0) (s1 := 0) (n := 74) d_PI_paintRowByte_71 ca_PI_paintRowByte_40 hp10 rfl rfl rfl ⟨by decide, by decide⟩ (Nat.le_of_ble_eq_true rfl) (Or.inl rfl) (fx_Mt.mono H fun v h15 hv => ?_)
        obtain ⟨rfl, e16, H⟩ := hv
        have hp15 : h15.1[p]? = some (hp_a, .inl (10, [some (p + 1), none, none, none])) := by rw [e16]; exact hp10
        have hx15 : h15.1[(p + 1)]? = some (hx_a, .inr (0, 960)) := by rw [e16]; exact hx10
        show fx_V l M_PI_paintRowByte (0, 0) Q 0 0 74 [some (.ref p), some (.int (zI x1)), some (.int (zI x2)), some (.int (zI x3)), some (.int (zI x4)), some (.int (zI ((x3 / 2 ^ (7 - x4).toNat) % 2)))] [] h15
        refine fx_iinc (v := x4 + 1) (ls2 := [some (.ref p), some (.int (zI x1)), some (.int (zI x2)), some (.int (zI x3)), some (.int (zI (x4 + 1))), some (.int (zI ((x3 / 2 ^ (7 - x4).toNat) % 2)))]) d_PI_paintRowByte_74 rfl rfl (by decide) rfl ?_
        refine fx_goto (n := 19) d_PI_paintRowByte_77 ?_
        exact fx_fewer [some (.ref p), some (.int (zI x1)), some (.int (zI x2)), some (.int (zI x3)), some (.int (zI (x4 + 1))), none] ⟨rfl, rfl, rfl, rfl, rfl, trivial⟩ H
      · replace H := H.2 z14
        refine fx_iconst d_PI_paintRowByte_58 ?_
        exact fx_end (some (.int (zI 0))) ⟨⟨_, rfl, rfl⟩, d_PI_paintRowByte_59⟩ (Nat.le_refl _) (Nat.le_refl _) rfl H

set_option maxRecDepth 100000 in
set_option maxHeartbeats 4000000 in
theorem e_PI_firstUnlike {l : Launch} {Q : Option Value → fx_H → Prop} {h : fx_H} {p : Nat} {y : Int} {x : Int} {c : Int} {hp_a : Nat} {hx_a : Nat} (hp : h.1[p]? = some (hp_a, .inl (10, [some (p + 1), none, none, none]))) (hx : h.1[(p + 1)]? = some (hx_a, .inr (0, 960)))
    (H : (fx_V l M_PI_firstUnlike (0, 0) Q 0 0 3 [some (.ref p), some (.int (zI y)), none, some (.int (zI c)), some (.int (zI x))] [] h)) :
    fx_Mt l M_PI_firstUnlike (0, 0) [.ref p, .int (zI y), .int (zI x), .int (zI c)] h Q := by
  refine fx_entry (ls := [some (.ref p), some (.int (zI y)), some (.int (zI x)), some (.int (zI c)), none]) (by decide) (Nat.le_of_ble_eq_true rfl) rfl ?_
  refine fx_iload_n (i := 2) d_PI_firstUnlike_0 rfl rfl ?_
  refine fx_istore (ls2 := [some (.ref p), some (.int (zI y)), some (.int (zI x)), some (.int (zI c)), some (.int (zI x))]) d_PI_firstUnlike_1 (by decide) rfl ?_
  exact fx_fewer [some (.ref p), some (.int (zI y)), none, some (.int (zI c)), some (.int (zI x))] ⟨rfl, rfl, rfl, rfl, trivial⟩ H

set_option maxRecDepth 100000 in
set_option maxHeartbeats 4000000 in
theorem w_PI_firstUnlike_3 {l : Launch} {Q : Option Value → fx_H → Prop} {h : fx_H} {p : Nat} {x1 : Int} {x3 : Int} {x4 : Int} {hp_a : Nat} {hx_a : Nat} (hp : h.1[p]? = some (hp_a, .inl (10, [some (p + 1), none, none, none]))) (hx : h.1[(p + 1)]? = some (hx_a, .inr (0, 960)))
    (H : zR x4 ∧ zR (h.2.1 p 2) ∧ (((h.2.1 p 2) ≤ x4 → Q (some (.int (zI (h.2.1 p 2)))) h) ∧ (¬ ((h.2.1 p 2) ≤ x4) → fx_Mt l M_PI_pixel (0, 0) [.ref p, .int (zI x4), .int (zI x1)] h (fun v h4 => ∃ r6 : Int, v = some (.int (zI r6)) ∧ h4.1 = h.1 ∧ zR r6 ∧ zR x3 ∧ ((r6 = x3 → (fx_V l M_PI_firstUnlike (0, 0) Q 0 0 3 [some (.ref p), some (.int (zI x1)), none, some (.int (zI x3)), some (.int (zI (x4 + 1)))] [] h4)) ∧ (¬ (r6 = x3) → Q (some (.int (zI x4))) h4)))))) :
    fx_V l M_PI_firstUnlike (0, 0) Q 0 0 3 [some (.ref p), some (.int (zI x1)), none, some (.int (zI x3)), some (.int (zI x4))] [] h := by
  refine fx_iload d_PI_firstUnlike_3 rfl ?_
  refine fx_aload_n (i := 0) d_PI_firstUnlike_5 rfl rfl ?_
  refine fx_getI d_PI_firstUnlike_6 lk_PI_15 hp rfl ?_
  obtain ⟨hz1, H⟩ := H
  obtain ⟨hz2, H⟩ := H
  refine fx_icmp_ge (t := 32) (n := 12) d_PI_firstUnlike_9 hz1 hz2 (fun z3 => ?_) (fun z3 => ?_)
  · replace H := H.1 z3
    refine fx_aload_n (i := 0) d_PI_firstUnlike_32 rfl rfl ?_
    refine fx_getI d_PI_firstUnlike_33 lk_PI_15 hp rfl ?_
    exact fx_end (some (.int (zI (h.2.1 p 2)))) ⟨⟨_, rfl, rfl⟩, d_PI_firstUnlike_36⟩ (Nat.le_refl _) (Nat.le_refl _) rfl H
  · replace H := H.2 z3
    refine fx_aload_n (i := 0) d_PI_firstUnlike_12 rfl rfl ?_
    refine fx_iload d_PI_firstUnlike_13 rfl ?_
    refine fx_iload_n (i := 1) d_PI_firstUnlike_15 rfl rfl ?_
    refine fx_callV (M' := M_PI_pixel) (B' := (0, 0)) (vs := [.int (zI x4), .int (zI x1)]) (rest := []) (c1 := 0) (s1 := 0) (n := 19) d_PI_firstUnlike_16 ca_PI_firstUnlike_36 hp rfl rfl rfl ⟨by decide, by decide⟩ (Nat.le_of_ble_eq_true rfl) (Or.inl rfl) (fx_Mt.mono H fun v h4 hv => ?_)
    obtain ⟨r6, rfl, e5, H⟩ := hv
    have hp4 : h4.1[p]? = some (hp_a, .inl (10, [some (p + 1), none, none, none])) := by rw [e5]; exact hp
    have hx4 : h4.1[(p + 1)]? = some (hx_a, .inr (0, 960)) := by rw [e5]; exact hx
    show fx_V l M_PI_firstUnlike (0, 0) Q 0 0 19 [some (.ref p), some (.int (zI x1)), none, some (.int (zI x3)), some (.int (zI x4))] [.int (zI r6)] h4
    refine fx_iload_n (i := 3) d_PI_firstUnlike_19 rfl rfl ?_
    obtain ⟨hz7, H⟩ := H
    obtain ⟨hz8, H⟩ := H
    refine fx_icmp_eq (t := 26) (n := 23) d_PI_firstUnlike_20 hz7 hz8 (fun z9 => ?_) (fun z9 => ?_)
    · replace H := H.1 z9
      refine fx_iinc (v := x4 + 1) (ls2 := [some (.ref p), some (.int (zI x1)), none, some (.int (zI x3)), some (.int (zI (x4 + 1)))]) d_PI_firstUnlike_26 rfl rfl (by decide) rfl ?_
      refine fx_goto (n := 3) d_PI_firstUnlike_29 ?_
      exact H
    · replace H := H.2 z9
      refine fx_iload d_PI_firstUnlike_23 rfl ?_
      exact fx_end (some (.int (zI x4))) ⟨⟨_, rfl, rfl⟩, d_PI_firstUnlike_25⟩ (Nat.le_refl _) (Nat.le_refl _) rfl H

set_option maxRecDepth 100000 in
set_option maxHeartbeats 4000000 in
theorem e_PI_firstChange {l : Launch} {Q : Option Value → fx_H → Prop} {h : fx_H} {p : Nat} {y : Int} {x : Int} {c : Int} {hp_a : Nat} {hx_a : Nat} (hp : h.1[p]? = some (hp_a, .inl (10, [some (p + 1), none, none, none]))) (hx : h.1[(p + 1)]? = some (hx_a, .inr (0, 960)))
    (H : (fx_V l M_PI_firstChange (0, 0) Q 0 0 3 [some (.ref p), some (.int (zI y)), none, some (.int (zI c)), some (.int (zI x))] [] h)) :
    fx_Mt l M_PI_firstChange (0, 0) [.ref p, .int (zI y), .int (zI x), .int (zI c)] h Q := by
  refine fx_entry (ls := [some (.ref p), some (.int (zI y)), some (.int (zI x)), some (.int (zI c)), none]) (by decide) (Nat.le_of_ble_eq_true rfl) rfl ?_
  refine fx_iload_n (i := 2) d_PI_firstChange_0 rfl rfl ?_
  refine fx_istore (ls2 := [some (.ref p), some (.int (zI y)), some (.int (zI x)), some (.int (zI c)), some (.int (zI x))]) d_PI_firstChange_1 (by decide) rfl ?_
  exact fx_fewer [some (.ref p), some (.int (zI y)), none, some (.int (zI c)), some (.int (zI x))] ⟨rfl, rfl, rfl, rfl, trivial⟩ H

set_option maxRecDepth 100000 in
set_option maxHeartbeats 4000000 in
theorem w_PI_firstChange_3 {l : Launch} {Q : Option Value → fx_H → Prop} {h : fx_H} {p : Nat} {x1 : Int} {x3 : Int} {x4 : Int} {hp_a : Nat} {hx_a : Nat} (hp : h.1[p]? = some (hp_a, .inl (10, [some (p + 1), none, none, none]))) (hx : h.1[(p + 1)]? = some (hx_a, .inr (0, 960)))
    (H : zR x4 ∧ zR (h.2.1 p 2) ∧ (((h.2.1 p 2) ≤ x4 → Q (some (.int (zI (h.2.1 p 2)))) h) ∧ (¬ ((h.2.1 p 2) ≤ x4) → fx_Mt l M_PI_pixel (0, 0) [.ref p, .int (zI x4), .int (zI x1)] h (fun v h4 => ∃ r6 : Int, v = some (.int (zI r6)) ∧ h4.1 = h.1 ∧ zR r6 ∧ zR x3 ∧ ((r6 = x3 → (fx_V l M_PI_firstChange (0, 0) Q 0 0 3 [some (.ref p), some (.int (zI x1)), none, some (.int (zI x3)), some (.int (zI (x4 + 1)))] [] h4)) ∧ (¬ (r6 = x3) → ((x4 = 0 → Q (some (.int (zI x4))) h4) ∧ (¬ (x4 = 0) → fx_Mt l M_PI_pixel (0, 0) [.ref p, .int (zI (x4 - 1)), .int (zI x1)] h4 (fun v h11 => ∃ r13 : Int, v = some (.int (zI r13)) ∧ h11.1 = h4.1 ∧ zR r13 ∧ ((¬ r13 = x3 → (fx_V l M_PI_firstChange (0, 0) Q 0 0 3 [some (.ref p), some (.int (zI x1)), none, some (.int (zI x3)), some (.int (zI (x4 + 1)))] [] h11)) ∧ (r13 = x3 → Q (some (.int (zI x4))) h11))))))))))) :
    fx_V l M_PI_firstChange (0, 0) Q 0 0 3 [some (.ref p), some (.int (zI x1)), none, some (.int (zI x3)), some (.int (zI x4))] [] h := by
  refine fx_iload d_PI_firstChange_3 rfl ?_
  refine fx_aload_n (i := 0) d_PI_firstChange_5 rfl rfl ?_
  refine fx_getI d_PI_firstChange_6 lk_PI_15 hp rfl ?_
  obtain ⟨hz1, H⟩ := H
  obtain ⟨hz2, H⟩ := H
  refine fx_icmp_ge (t := 50) (n := 12) d_PI_firstChange_9 hz1 hz2 (fun z3 => ?_) (fun z3 => ?_)
  · replace H := H.1 z3
    refine fx_aload_n (i := 0) d_PI_firstChange_50 rfl rfl ?_
    refine fx_getI d_PI_firstChange_51 lk_PI_15 hp rfl ?_
    exact fx_end (some (.int (zI (h.2.1 p 2)))) ⟨⟨_, rfl, rfl⟩, d_PI_firstChange_54⟩ (Nat.le_refl _) (Nat.le_refl _) rfl H
  · replace H := H.2 z3
    refine fx_aload_n (i := 0) d_PI_firstChange_12 rfl rfl ?_
    refine fx_iload d_PI_firstChange_13 rfl ?_
    refine fx_iload_n (i := 1) d_PI_firstChange_15 rfl rfl ?_
    refine fx_callV (M' := M_PI_pixel) (B' := (0, 0)) (vs := [.int (zI x4), .int (zI x1)]) (rest := []) (c1 := 0) (s1 := 0) (n := 19) d_PI_firstChange_16 ca_PI_firstChange_36 hp rfl rfl rfl ⟨by decide, by decide⟩ (Nat.le_of_ble_eq_true rfl) (Or.inl rfl) (fx_Mt.mono H fun v h4 hv => ?_)
    obtain ⟨r6, rfl, e5, H⟩ := hv
    have hp4 : h4.1[p]? = some (hp_a, .inl (10, [some (p + 1), none, none, none])) := by rw [e5]; exact hp
    have hx4 : h4.1[(p + 1)]? = some (hx_a, .inr (0, 960)) := by rw [e5]; exact hx
    show fx_V l M_PI_firstChange (0, 0) Q 0 0 19 [some (.ref p), some (.int (zI x1)), none, some (.int (zI x3)), some (.int (zI x4))] [.int (zI r6)] h4
    refine fx_iload_n (i := 3) d_PI_firstChange_19 rfl rfl ?_
    obtain ⟨hz7, H⟩ := H
    obtain ⟨hz8, H⟩ := H
    refine fx_icmp_eq (t := 44) (n := 23) d_PI_firstChange_20 hz7 hz8 (fun z9 => ?_) (fun z9 => ?_)
    · replace H := H.1 z9
      refine fx_iinc (v := x4 + 1) (ls2 := [some (.ref p), some (.int (zI x1)), none, some (.int (zI x3)), some (.int (zI (x4 + 1)))]) d_PI_firstChange_44 rfl rfl (by decide) rfl ?_
      refine fx_goto (n := 3) d_PI_firstChange_47 ?_
      exact H
    · replace H := H.2 z9
      refine fx_iload d_PI_firstChange_23 rfl ?_
      refine fx_if_eq (t := 41) (n := 28) d_PI_firstChange_25 hz1 (fun z10 => ?_) (fun z10 => ?_)
      · replace H := H.1 z10
        refine fx_iload d_PI_firstChange_41 rfl ?_
        exact fx_end (some (.int (zI x4))) ⟨⟨_, rfl, rfl⟩, d_PI_firstChange_43⟩ (Nat.le_refl _) (Nat.le_refl _) rfl H
      · replace H := H.2 z10
        refine fx_aload_n (i := 0) d_PI_firstChange_28 rfl rfl ?_
        refine fx_iload d_PI_firstChange_29 rfl ?_
        refine fx_iconst d_PI_firstChange_31 ?_
        refine fx_isub d_PI_firstChange_32 ?_
        refine fx_iload_n (i := 1) d_PI_firstChange_33 rfl rfl ?_
        refine fx_callV (M' := M_PI_pixel) (B' := (0, 0)) (vs := [.int (zI (x4 - 1)), .int (zI x1)]) (rest := []) (c1 := 0) (s1 := 0) (n := 37) d_PI_firstChange_34 ca_PI_firstChange_36 hp4 rfl rfl rfl ⟨by decide, by decide⟩ (Nat.le_of_ble_eq_true rfl) (Or.inl rfl) (fx_Mt.mono H fun v h11 hv => ?_)
        obtain ⟨r13, rfl, e12, H⟩ := hv
        have hp11 : h11.1[p]? = some (hp_a, .inl (10, [some (p + 1), none, none, none])) := by rw [e12]; exact hp4
        have hx11 : h11.1[(p + 1)]? = some (hx_a, .inr (0, 960)) := by rw [e12]; exact hx4
        show fx_V l M_PI_firstChange (0, 0) Q 0 0 37 [some (.ref p), some (.int (zI x1)), none, some (.int (zI x3)), some (.int (zI x4))] [.int (zI r13)] h11
        refine fx_iload_n (i := 3) d_PI_firstChange_37 rfl rfl ?_
        obtain ⟨hz14, H⟩ := H
        refine fx_icmp_ne (t := 44) (n := 41) d_PI_firstChange_38 hz14 hz8 (fun z15 => ?_) (fun z15 => ?_)
        · replace H := H.1 z15
          refine fx_iinc (v := x4 + 1) (ls2 := [some (.ref p), some (.int (zI x1)), none, some (.int (zI x3)), some (.int (zI (x4 + 1)))]) d_PI_firstChange_44 rfl rfl (by decide) rfl ?_
          refine fx_goto (n := 3) d_PI_firstChange_47 ?_
          exact H
        · replace H := H.2 z15
          refine fx_iload d_PI_firstChange_41 rfl ?_
          exact fx_end (some (.int (zI x4))) ⟨⟨_, rfl, rfl⟩, d_PI_firstChange_43⟩ (Nat.le_refl _) (Nat.le_refl _) rfl H

