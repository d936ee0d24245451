/-! what is owed of the numbers, by program (wip/printvc.py) -/
set_option maxRecDepth 100000 in
set_option maxHeartbeats 4000000 in
theorem e_FP_packingOf {l : Launch} {Q : Option Value → fx_H → Prop} {h : fx_H}  {s : Int} {hp_a : Nat} {hx_a : Nat} {hd_a : Nat} {hy_a : Nat} {a : Nat → Nat} {pp dd : Nat} (hS : h.1 = fx_S0 a pp dd) (hp : h.1[pp]? = some (hp_a, .inl (10, [some (pp + 1), none, none, none]))) (hx : h.1[(pp + 1)]? = some (hx_a, .inr (0, 960))) (hd : h.1[dd]? = some (hd_a, .inl (10, [some (dd + 1), none, none, none]))) (hy : h.1[(dd + 1)]? = some (hy_a, .inr (0, 960)))
    (H : zR s ∧ ((s = 3 → Q (some (.ref 23)) h) ∧ (s = 4 → Q (some (.ref 24)) h) ∧ (s = 5 → Q (some (.ref 16)) h) ∧ (s = 32773 → Q (some (.ref 14)) h) ∧ (¬ s = 3 → ¬ s = 4 → ¬ s = 5 → ¬ s = 32773 → Q (some (.ref 13)) h))) :
    fx_Mt l M_FP_packingOf (0, 0) [.ref 0, .int (zI s)] h Q := by
  refine fx_entry (ls := [some (.ref 0), some (.int (zI s))]) (by decide) (Nat.le_of_ble_eq_true rfl) rfl ?_
  refine fx_iload_n (i := 1) d_FP_packingOf_0 rfl rfl ?_
  obtain ⟨hz1, H⟩ := H
  rcases Classical.em (s = 3) with z20 | z20
  · replace H := H.1 z20
    refine fx_lookup (off := 53) (n := 54) d_FP_packingOf_1 (by decide) hz1 (by rw [z20]; decide) ?_
    refine fx_aload_n (i := 0) d_FP_packingOf_54 rfl rfl ?_
    refine fx_getR (q := 23) d_FP_packingOf_55 lk_FP_61 (at_0 (h := _) hS) rfl rfl ?_
    exact fx_end (some (.ref 23)) ⟨⟨_, rfl, by first | exact Or.inl ⟨_, rfl⟩ | exact Or.inr ⟨_, rfl⟩⟩, d_FP_packingOf_58⟩ (Nat.le_refl _) (Nat.le_refl _) rfl H
  replace H := H.2
  rcases Classical.em (s = 4) with z21 | z21
  · replace H := H.1 z21
    refine fx_lookup (off := 58) (n := 59) d_FP_packingOf_1 (by decide) hz1 (by rw [z21]; decide) ?_
    refine fx_aload_n (i := 0) d_FP_packingOf_59 rfl rfl ?_
    refine fx_getR (q := 24) d_FP_packingOf_60 lk_FP_64 (at_0 (h := _) hS) rfl rfl ?_
    exact fx_end (some (.ref 24)) ⟨⟨_, rfl, by first | exact Or.inl ⟨_, rfl⟩ | exact Or.inr ⟨_, rfl⟩⟩, d_FP_packingOf_63⟩ (Nat.le_refl _) (Nat.le_refl _) rfl H
  replace H := H.2
  rcases Classical.em (s = 5) with z22 | z22
  · replace H := H.1 z22
    refine fx_lookup (off := 48) (n := 49) d_FP_packingOf_1 (by decide) hz1 (by rw [z22]; decide) ?_
    refine fx_aload_n (i := 0) d_FP_packingOf_49 rfl rfl ?_
    refine fx_getR (q := 16) d_FP_packingOf_50 lk_FP_53 (at_0 (h := _) hS) rfl rfl ?_
    exact fx_end (some (.ref 16)) ⟨⟨_, rfl, by first | exact Or.inl ⟨_, rfl⟩ | exact Or.inr ⟨_, rfl⟩⟩, d_FP_packingOf_53⟩ (Nat.le_refl _) (Nat.le_refl _) rfl H
  replace H := H.2
  rcases Classical.em (s = 32773) with z23 | z23
  · replace H := H.1 z23
    refine fx_lookup (off := 43) (n := 44) d_FP_packingOf_1 (by decide) hz1 (by rw [z23]; decide) ?_
    refine fx_aload_n (i := 0) d_FP_packingOf_44 rfl rfl ?_
    refine fx_getR (q := 14) d_FP_packingOf_45 lk_FP_47 (at_0 (h := _) hS) rfl rfl ?_
    exact fx_end (some (.ref 14)) ⟨⟨_, rfl, by first | exact Or.inl ⟨_, rfl⟩ | exact Or.inr ⟨_, rfl⟩⟩, d_FP_packingOf_48⟩ (Nat.le_refl _) (Nat.le_refl _) rfl H
  replace H := H.2
  replace H := H z20 z21 z22 z23
  refine fx_lookup (off := 63) (n := 64) d_FP_packingOf_1 (by decide) hz1 (by simp [Op.lookupswitch.offset, Ne.symm z20, Ne.symm z21, Ne.symm z22, Ne.symm z23]) ?_
  refine fx_aload_n (i := 0) d_FP_packingOf_64 rfl rfl ?_
  refine fx_getR (q := 13) d_FP_packingOf_65 lk_FP_40 (at_0 (h := _) hS) rfl rfl ?_
  exact fx_end (some (.ref 13)) ⟨⟨_, rfl, by first | exact Or.inl ⟨_, rfl⟩ | exact Or.inr ⟨_, rfl⟩⟩, d_FP_packingOf_68⟩ (Nat.le_refl _) (Nat.le_refl _) rfl H

set_option maxRecDepth 100000 in
set_option maxHeartbeats 4000000 in
theorem e_FP_packStrips_13 {l : Launch} {Q : Option Value → fx_H → Prop} {h : fx_H}  {x : Int} {n : Int} {hp_a : Nat} {hx_a : Nat} {hd_a : Nat} {hy_a : Nat} {a : Nat → Nat} {pp dd : Nat} (hS : h.1 = fx_S0 a pp dd) (hp : h.1[pp]? = some (hp_a, .inl (10, [some (pp + 1), none, none, none]))) (hx : h.1[(pp + 1)]? = some (hx_a, .inr (0, 960))) (hd : h.1[dd]? = some (hd_a, .inl (10, [some (dd + 1), none, none, none]))) (hy : h.1[(dd + 1)]? = some (hy_a, .inr (0, 960)))
    (H : (fx_V l M_FP_packStrips (0, 0) Q 0 0 3 [some (.ref 0), some (.ref 13), some (.int (zI x)), some (.int (zI n)), some (.int (zI 0))] [] h)) :
    fx_Mt l M_FP_packStrips (0, 0) [.ref 0, .ref 13, .int (zI x), .int (zI n)] h Q := by
  refine fx_entry (ls := [some (.ref 0), some (.ref 13), some (.int (zI x)), some (.int (zI n)), none]) (by decide) (Nat.le_of_ble_eq_true rfl) rfl ?_
  refine fx_iconst d_FP_packStrips_0 ?_
  refine fx_istore (ls2 := [some (.ref 0), some (.ref 13), some (.int (zI x)), some (.int (zI n)), some (.int (zI 0))]) d_FP_packStrips_1 (by decide) rfl ?_
  exact H

set_option maxRecDepth 100000 in
set_option maxHeartbeats 4000000 in
theorem w_FP_packStrips_3_13 {l : Launch} {Q : Option Value → fx_H → Prop} {h : fx_H}  {x2 : Int} {x3 : Int} {x4 : Int} {hp_a : Nat} {hx_a : Nat} {hd_a : Nat} {hy_a : Nat} {a : Nat → Nat} {pp dd : Nat} (hS : h.1 = fx_S0 a pp dd) (hp : h.1[pp]? = some (hp_a, .inl (10, [some (pp + 1), none, none, none]))) (hx : h.1[(pp + 1)]? = some (hx_a, .inr (0, 960))) (hd : h.1[dd]? = some (hd_a, .inl (10, [some (dd + 1), none, none, none]))) (hy : h.1[(dd + 1)]? = some (hy_a, .inr (0, 960)))
    (H : zR x4 ∧ zR x3 ∧ ((x3 ≤ x4 → Q none h) ∧ (¬ (x3 ≤ x4) → ((24 ≤ x4 → Q none h) ∧ (¬ (24 ≤ x4) → 0 ≤ x4 ∧ x4 < 24 ∧ zR (h.2.1 pp 3) ∧ zR ((x4 + 1) * x2) ∧ fx_Mt l M_PL_pack (0, 0) [.ref 13, .ref pp, .int (zI (x4 * x2)), .int (zI (if ((x4 + 1) * x2) < (h.2.1 pp 3) then (x4 + 1) * x2 else h.2.1 pp 3))] (fx_uA h 25 (x4.toNat) (h.2.1 1 1)) (fun v h9 => v = none ∧ h9.1 = (fx_uA h 25 (x4.toNat) (h.2.1 1 1)).1 ∧ 0 ≤ x4 ∧ x4 < 24 ∧ 0 ≤ x4 ∧ x4 < 24 ∧ (fx_V l M_FP_packStrips (0, 0) Q 0 0 3 [some (.ref 0), some (.ref 13), some (.int (zI x2)), some (.int (zI x3)), some (.int (zI (x4 + 1)))] [] (fx_uA h9 26 (x4.toNat) ((h9.2.1 1 1) - (h9.2.2.1 25 (x4.toNat))))))))))) :
    fx_V l M_FP_packStrips (0, 0) Q 0 0 3 [some (.ref 0), some (.ref 13), some (.int (zI x2)), some (.int (zI x3)), some (.int (zI x4))] [] h := by
  refine fx_iload d_FP_packStrips_3 rfl ?_
  refine fx_iload_n (i := 3) d_FP_packStrips_5 rfl rfl ?_
  obtain ⟨hz1, H⟩ := H
  obtain ⟨hz2, H⟩ := H
  refine fx_icmp_ge (t := 88) (n := 9) d_FP_packStrips_6 hz1 hz2 (fun z3 => ?_) (fun z3 => ?_)
  · replace H := H.1 z3
    exact fx_end none ⟨rfl, d_FP_packStrips_88⟩ (Nat.le_refl _) (Nat.le_refl _) rfl H
  · replace H := H.2 z3
    refine fx_iload d_FP_packStrips_9 rfl ?_
    refine fx_bipush (v := 24) d_FP_packStrips_11 rfl ?_
    refine fx_icmp_ge (t := 88) (n := 16) d_FP_packStrips_13 hz1 (show zR 24 by decide) (fun z4 => ?_) (fun z4 => ?_)
    · replace H := H.1 z4
      exact fx_end none ⟨rfl, d_FP_packStrips_88⟩ (Nat.le_refl _) (Nat.le_refl _) rfl H
    · replace H := H.2 z4
      refine fx_aload_n (i := 0) d_FP_packStrips_16 rfl rfl ?_
      refine fx_getR (q := 25) d_FP_packStrips_17 lk_FP_67 (at_0 (h := _) hS) rfl rfl ?_
      refine fx_iload d_FP_packStrips_20 rfl ?_
      refine fx_aload_n (i := 0) d_FP_packStrips_22 rfl rfl ?_
      refine fx_getR (q := 1) d_FP_packStrips_23 lk_FP_20 (at_0 (h := _) hS) rfl rfl ?_
      refine fx_getI d_FP_packStrips_26 lk_FP_160 (at_1 (h := _) hS) rfl ?_
      obtain ⟨hn5, H⟩ := H
      obtain ⟨hn6, H⟩ := H
      refine fx_iast d_FP_packStrips_29 (at_25 (h := _) hS) hn5 hn6 (by decide) ?_
      refine fx_aload_n (i := 1) d_FP_packStrips_30 rfl rfl ?_
      refine fx_aload_n (i := 0) d_FP_packStrips_31 rfl rfl ?_
      refine fx_getR (q := pp) d_FP_packStrips_32 lk_FP_77 (at_0 (h := _) hS) rfl rfl ?_
      refine fx_iload d_FP_packStrips_35 rfl ?_
      refine fx_iload_n (i := 2) d_FP_packStrips_37 rfl rfl ?_
      refine fx_imul d_FP_packStrips_38 ?_
      refine fx_aload_n (i := 0) d_FP_packStrips_39 rfl rfl ?_
      refine fx_getR (q := pp) d_FP_packStrips_40 lk_FP_77 (at_0 (h := _) hS) rfl rfl ?_
      refine fx_getI d_FP_packStrips_43 lk_FP_118 hp rfl ?_
      refine fx_iload d_FP_packStrips_46 rfl ?_
      refine fx_iconst d_FP_packStrips_48 ?_
      refine fx_iadd d_FP_packStrips_49 ?_
      refine fx_iload_n (i := 2) d_FP_packStrips_50 rfl rfl ?_
      refine fx_imul d_FP_packStrips_51 ?_
      obtain ⟨hz7, H⟩ := H
      obtain ⟨hz8, H⟩ := H
      refine fx_min d_FP_packStrips_52 mm_FP_228 mw_min_s mw_i mw_min_c ⟨by decide, by decide⟩ (Nat.le_of_ble_eq_true rfl) ⟨Nat.le_refl _, Nat.le_refl _⟩ hz7 hz8 ?_
      refine fx_callF (M' := M_PL_pack) (B' := (0, 0)) (vs := [.ref pp, .int (zI (x4 * x2)), .int (zI (if ((x4 + 1) * x2) < (h.2.1 pp 3) then (x4 + 1) * x2 else h.2.1 pp 3))]) (rest := []) (c1 := 0) (s1 := 0) (n := 60) d_FP_packStrips_55 cf_FP_packStrips_PL_pack (at_13 (h := _) hS) rfl rfl rfl ⟨by decide, by decide⟩ (Nat.le_of_ble_eq_true rfl) (Or.inl rfl) (fx_Mt.mono H fun v h9 hv => ?_)
      obtain ⟨rfl, e10, H⟩ := hv
      have hS9 := e10.trans hS
      have hp9 : h9.1[pp]? = some (hp_a, .inl (10, [some (pp + 1), none, none, none])) := by rw [e10]; exact hp
      have hx9 : h9.1[(pp + 1)]? = some (hx_a, .inr (0, 960)) := by rw [e10]; exact hx
      have hd9 : h9.1[dd]? = some (hd_a, .inl (10, [some (dd + 1), none, none, none])) := by rw [e10]; exact hd
      have hy9 : h9.1[(dd + 1)]? = some (hy_a, .inr (0, 960)) := by rw [e10]; exact hy
      show fx_V l M_FP_packStrips (0, 0) Q 0 0 60 [some (.ref 0), some (.ref 13), some (.int (zI x2)), some (.int (zI x3)), some (.int (zI x4))] [] h9
      refine fx_aload_n (i := 0) d_FP_packStrips_60 rfl rfl ?_
      refine fx_getR (q := 26) d_FP_packStrips_61 lk_FP_71 (at_0 (h := _) hS9) rfl rfl ?_
      refine fx_iload d_FP_packStrips_64 rfl ?_
      refine fx_aload_n (i := 0) d_FP_packStrips_66 rfl rfl ?_
      refine fx_getR (q := 1) d_FP_packStrips_67 lk_FP_20 (at_0 (h := _) hS9) rfl rfl ?_
      refine fx_getI d_FP_packStrips_70 lk_FP_160 (at_1 (h := _) hS9) rfl ?_
      refine fx_aload_n (i := 0) d_FP_packStrips_73 rfl rfl ?_
      refine fx_getR (q := 25) d_FP_packStrips_74 lk_FP_67 (at_0 (h := _) hS9) rfl rfl ?_
      refine fx_iload d_FP_packStrips_77 rfl ?_
      obtain ⟨hn11, H⟩ := H
      obtain ⟨hn12, H⟩ := H
      refine fx_iald d_FP_packStrips_79 (at_25 (h := _) hS9) hn11 hn12 (by decide) ?_
      refine fx_isub d_FP_packStrips_80 ?_
      obtain ⟨hn13, H⟩ := H
      obtain ⟨hn14, H⟩ := H
      refine fx_iast d_FP_packStrips_81 (at_26 (h := _) hS9) hn13 hn14 (by decide) ?_
      refine fx_iinc (v := x4 + 1) (ls2 := [some (.ref 0), some (.ref 13), some (.int (zI x2)), some (.int (zI x3)), some (.int (zI (x4 + 1)))]) d_FP_packStrips_82 rfl rfl (by decide) rfl ?_
      refine fx_goto (n := 3) d_FP_packStrips_85 ?_
      exact H

set_option maxRecDepth 100000 in
set_option maxHeartbeats 4000000 in
theorem e_FP_packStrips_14 {l : Launch} {Q : Option Value → fx_H → Prop} {h : fx_H}  {x : Int} {n : Int} {hp_a : Nat} {hx_a : Nat} {hd_a : Nat} {hy_a : Nat} {a : Nat → Nat} {pp dd : Nat} (hS : h.1 = fx_S0 a pp dd) (hp : h.1[pp]? = some (hp_a, .inl (10, [some (pp + 1), none, none, none]))) (hx : h.1[(pp + 1)]? = some (hx_a, .inr (0, 960))) (hd : h.1[dd]? = some (hd_a, .inl (10, [some (dd + 1), none, none, none]))) (hy : h.1[(dd + 1)]? = some (hy_a, .inr (0, 960)))
    (H : (fx_V l M_FP_packStrips (0, 0) Q 0 0 3 [some (.ref 0), some (.ref 14), some (.int (zI x)), some (.int (zI n)), some (.int (zI 0))] [] h)) :
    fx_Mt l M_FP_packStrips (0, 0) [.ref 0, .ref 14, .int (zI x), .int (zI n)] h Q := by
  refine fx_entry (ls := [some (.ref 0), some (.ref 14), some (.int (zI x)), some (.int (zI n)), none]) (by decide) (Nat.le_of_ble_eq_true rfl) rfl ?_
  refine fx_iconst d_FP_packStrips_0 ?_
  refine fx_istore (ls2 := [some (.ref 0), some (.ref 14), some (.int (zI x)), some (.int (zI n)), some (.int (zI 0))]) d_FP_packStrips_1 (by decide) rfl ?_
  exact H

set_option maxRecDepth 100000 in
set_option maxHeartbeats 4000000 in
theorem w_FP_packStrips_3_14 {l : Launch} {Q : Option Value → fx_H → Prop} {h : fx_H}  {x2 : Int} {x3 : Int} {x4 : Int} {hp_a : Nat} {hx_a : Nat} {hd_a : Nat} {hy_a : Nat} {a : Nat → Nat} {pp dd : Nat} (hS : h.1 = fx_S0 a pp dd) (hp : h.1[pp]? = some (hp_a, .inl (10, [some (pp + 1), none, none, none]))) (hx : h.1[(pp + 1)]? = some (hx_a, .inr (0, 960))) (hd : h.1[dd]? = some (hd_a, .inl (10, [some (dd + 1), none, none, none]))) (hy : h.1[(dd + 1)]? = some (hy_a, .inr (0, 960)))
    (H : zR x4 ∧ zR x3 ∧ ((x3 ≤ x4 → Q none h) ∧ (¬ (x3 ≤ x4) → ((24 ≤ x4 → Q none h) ∧ (¬ (24 ≤ x4) → 0 ≤ x4 ∧ x4 < 24 ∧ zR (h.2.1 pp 3) ∧ zR ((x4 + 1) * x2) ∧ fx_Mt l M_RU_pack (0, 0) [.ref 14, .ref pp, .int (zI (x4 * x2)), .int (zI (if ((x4 + 1) * x2) < (h.2.1 pp 3) then (x4 + 1) * x2 else h.2.1 pp 3))] (fx_uA h 25 (x4.toNat) (h.2.1 1 1)) (fun v h9 => v = none ∧ h9.1 = (fx_uA h 25 (x4.toNat) (h.2.1 1 1)).1 ∧ 0 ≤ x4 ∧ x4 < 24 ∧ 0 ≤ x4 ∧ x4 < 24 ∧ (fx_V l M_FP_packStrips (0, 0) Q 0 0 3 [some (.ref 0), some (.ref 14), some (.int (zI x2)), some (.int (zI x3)), some (.int (zI (x4 + 1)))] [] (fx_uA h9 26 (x4.toNat) ((h9.2.1 1 1) - (h9.2.2.1 25 (x4.toNat))))))))))) :
    fx_V l M_FP_packStrips (0, 0) Q 0 0 3 [some (.ref 0), some (.ref 14), some (.int (zI x2)), some (.int (zI x3)), some (.int (zI x4))] [] h := by
  refine fx_iload d_FP_packStrips_3 rfl ?_
  refine fx_iload_n (i := 3) d_FP_packStrips_5 rfl rfl ?_
  obtain ⟨hz1, H⟩ := H
  obtain ⟨hz2, H⟩ := H
  refine fx_icmp_ge (t := 88) (n := 9) d_FP_packStrips_6 hz1 hz2 (fun z3 => ?_) (fun z3 => ?_)
  · replace H := H.1 z3
    exact fx_end none ⟨rfl, d_FP_packStrips_88⟩ (Nat.le_refl _) (Nat.le_refl _) rfl H
  · replace H := H.2 z3
    refine fx_iload d_FP_packStrips_9 rfl ?_
    refine fx_bipush (v := 24) d_FP_packStrips_11 rfl ?_
    refine fx_icmp_ge (t := 88) (n := 16) d_FP_packStrips_13 hz1 (show zR 24 by decide) (fun z4 => ?_) (fun z4 => ?_)
    · replace H := H.1 z4
      exact fx_end none ⟨rfl, d_FP_packStrips_88⟩ (Nat.le_refl _) (Nat.le_refl _) rfl H
    · replace H := H.2 z4
      refine fx_aload_n (i := 0) d_FP_packStrips_16 rfl rfl ?_
      refine fx_getR (q := 25) d_FP_packStrips_17 lk_FP_67 (at_0 (h := _) hS) rfl rfl ?_
      refine fx_iload d_FP_packStrips_20 rfl ?_
      refine fx_aload_n (i := 0) d_FP_packStrips_22 rfl rfl ?_
      refine fx_getR (q := 1) d_FP_packStrips_23 lk_FP_20 (at_0 (h := _) hS) rfl rfl ?_
      refine fx_getI d_FP_packStrips_26 lk_FP_160 (at_1 (h := _) hS) rfl ?_
      obtain ⟨hn5, H⟩ := H
      obtain ⟨hn6, H⟩ := H
      refine fx_iast d_FP_packStrips_29 (at_25 (h := _) hS) hn5 hn6 (by decide) ?_
      refine fx_aload_n (i := 1) d_FP_packStrips_30 rfl rfl ?_
      refine fx_aload_n (i := 0) d_FP_packStrips_31 rfl rfl ?_
      refine fx_getR (q := pp) d_FP_packStrips_32 lk_FP_77 (at_0 (h := _) hS) rfl rfl ?_
      refine fx_iload d_FP_packStrips_35 rfl ?_
      refine fx_iload_n (i := 2) d_FP_packStrips_37 rfl rfl ?_
      refine fx_imul d_FP_packStrips_38 ?_
      refine fx_aload_n (i := 0) d_FP_packStrips_39 rfl rfl ?_
      refine fx_getR (q := pp) d_FP_packStrips_40 lk_FP_77 (at_0 (h := _) hS) rfl rfl ?_
      refine fx_getI d_FP_packStrips_43 lk_FP_118 hp rfl ?_
      refine fx_iload d_FP_packStrips_46 rfl ?_
      refine fx_iconst d_FP_packStrips_48 ?_
      refine fx_iadd d_FP_packStrips_49 ?_
      refine fx_iload_n (i := 2) d_FP_packStrips_50 rfl rfl ?_
      refine fx_imul d_FP_packStrips_51 ?_
      obtain ⟨hz7, H⟩ := H
      obtain ⟨hz8, H⟩ := H
      refine fx_min d_FP_packStrips_52 mm_FP_228 mw_min_s mw_i mw_min_c ⟨by decide, by decide⟩ (Nat.le_of_ble_eq_true rfl) ⟨Nat.le_refl _, Nat.le_refl _⟩ hz7 hz8 ?_
      refine fx_callF (M' := M_RU_pack) (B' := (0, 0)) (vs := [.ref pp, .int (zI (x4 * x2)), .int (zI (if ((x4 + 1) * x2) < (h.2.1 pp 3) then (x4 + 1) * x2 else h.2.1 pp 3))]) (rest := []) (c1 := 0) (s1 := 0) (n := 60) d_FP_packStrips_55 cf_FP_packStrips_RU_pack (at_14 (h := _) hS) rfl rfl rfl ⟨by decide, by decide⟩ (Nat.le_of_ble_eq_true rfl) (Or.inl rfl) (fx_Mt.mono H fun v h9 hv => ?_)
      obtain ⟨rfl, e10, H⟩ := hv
      have hS9 := e10.trans hS
      have hp9 : h9.1[pp]? = some (hp_a, .inl (10, [some (pp + 1), none, none, none])) := by rw [e10]; exact hp
      have hx9 : h9.1[(pp + 1)]? = some (hx_a, .inr (0, 960)) := by rw [e10]; exact hx
      have hd9 : h9.1[dd]? = some (hd_a, .inl (10, [some (dd + 1), none, none, none])) := by rw [e10]; exact hd
      have hy9 : h9.1[(dd + 1)]? = some (hy_a, .inr (0, 960)) := by rw [e10]; exact hy
      show fx_V l M_FP_packStrips (0, 0) Q 0 0 60 [some (.ref 0), some (.ref 14), some (.int (zI x2)), some (.int (zI x3)), some (.int (zI x4))] [] h9
      refine fx_aload_n (i := 0) d_FP_packStrips_60 rfl rfl ?_
      refine fx_getR (q := 26) d_FP_packStrips_61 lk_FP_71 (at_0 (h := _) hS9) rfl rfl ?_
      refine fx_iload d_FP_packStrips_64 rfl ?_
      refine fx_aload_n (i := 0) d_FP_packStrips_66 rfl rfl ?_
      refine fx_getR (q := 1) d_FP_packStrips_67 lk_FP_20 (at_0 (h := _) hS9) rfl rfl ?_
      refine fx_getI d_FP_packStrips_70 lk_FP_160 (at_1 (h := _) hS9) rfl ?_
      refine fx_aload_n (i := 0) d_FP_packStrips_73 rfl rfl ?_
      refine fx_getR (q := 25) d_FP_packStrips_74 lk_FP_67 (at_0 (h := _) hS9) rfl rfl ?_
      refine fx_iload d_FP_packStrips_77 rfl ?_
      obtain ⟨hn11, H⟩ := H
      obtain ⟨hn12, H⟩ := H
      refine fx_iald d_FP_packStrips_79 (at_25 (h := _) hS9) hn11 hn12 (by decide) ?_
      refine fx_isub d_FP_packStrips_80 ?_
      obtain ⟨hn13, H⟩ := H
      obtain ⟨hn14, H⟩ := H
      refine fx_iast d_FP_packStrips_81 (at_26 (h := _) hS9) hn13 hn14 (by decide) ?_
      refine fx_iinc (v := x4 + 1) (ls2 := [some (.ref 0), some (.ref 14), some (.int (zI x2)), some (.int (zI x3)), some (.int (zI (x4 + 1)))]) d_FP_packStrips_82 rfl rfl (by decide) rfl ?_
      refine fx_goto (n := 3) d_FP_packStrips_85 ?_
      exact H

set_option maxRecDepth 100000 in
set_option maxHeartbeats 4000000 in
theorem e_FP_packStrips_16 {l : Launch} {Q : Option Value → fx_H → Prop} {h : fx_H}  {x : Int} {n : Int} {hp_a : Nat} {hx_a : Nat} {hd_a : Nat} {hy_a : Nat} {a : Nat → Nat} {pp dd : Nat} (hS : h.1 = fx_S0 a pp dd) (hp : h.1[pp]? = some (hp_a, .inl (10, [some (pp + 1), none, none, none]))) (hx : h.1[(pp + 1)]? = some (hx_a, .inr (0, 960))) (hd : h.1[dd]? = some (hd_a, .inl (10, [some (dd + 1), none, none, none]))) (hy : h.1[(dd + 1)]? = some (hy_a, .inr (0, 960)))
    (H : (fx_V l M_FP_packStrips (0, 0) Q 0 0 3 [some (.ref 0), some (.ref 16), some (.int (zI x)), some (.int (zI n)), some (.int (zI 0))] [] h)) :
    fx_Mt l M_FP_packStrips (0, 0) [.ref 0, .ref 16, .int (zI x), .int (zI n)] h Q := by
  refine fx_entry (ls := [some (.ref 0), some (.ref 16), some (.int (zI x)), some (.int (zI n)), none]) (by decide) (Nat.le_of_ble_eq_true rfl) rfl ?_
  refine fx_iconst d_FP_packStrips_0 ?_
  refine fx_istore (ls2 := [some (.ref 0), some (.ref 16), some (.int (zI x)), some (.int (zI n)), some (.int (zI 0))]) d_FP_packStrips_1 (by decide) rfl ?_
  exact H

set_option maxRecDepth 100000 in
set_option maxHeartbeats 4000000 in
theorem w_FP_packStrips_3_16 {l : Launch} {Q : Option Value → fx_H → Prop} {h : fx_H}  {x2 : Int} {x3 : Int} {x4 : Int} {hp_a : Nat} {hx_a : Nat} {hd_a : Nat} {hy_a : Nat} {a : Nat → Nat} {pp dd : Nat} (hS : h.1 = fx_S0 a pp dd) (hp : h.1[pp]? = some (hp_a, .inl (10, [some (pp + 1), none, none, none]))) (hx : h.1[(pp + 1)]? = some (hx_a, .inr (0, 960))) (hd : h.1[dd]? = some (hd_a, .inl (10, [some (dd + 1), none, none, none]))) (hy : h.1[(dd + 1)]? = some (hy_a, .inr (0, 960)))
    (H : zR x4 ∧ zR x3 ∧ ((x3 ≤ x4 → Q none h) ∧ (¬ (x3 ≤ x4) → ((24 ≤ x4 → Q none h) ∧ (¬ (24 ≤ x4) → 0 ≤ x4 ∧ x4 < 24 ∧ zR (h.2.1 pp 3) ∧ zR ((x4 + 1) * x2) ∧ fx_Mt l M_TA_pack (0, 0) [.ref 16, .ref pp, .int (zI (x4 * x2)), .int (zI (if ((x4 + 1) * x2) < (h.2.1 pp 3) then (x4 + 1) * x2 else h.2.1 pp 3))] (fx_uA h 25 (x4.toNat) (h.2.1 1 1)) (fun v h9 => v = none ∧ h9.1 = (fx_uA h 25 (x4.toNat) (h.2.1 1 1)).1 ∧ 0 ≤ x4 ∧ x4 < 24 ∧ 0 ≤ x4 ∧ x4 < 24 ∧ (fx_V l M_FP_packStrips (0, 0) Q 0 0 3 [some (.ref 0), some (.ref 16), some (.int (zI x2)), some (.int (zI x3)), some (.int (zI (x4 + 1)))] [] (fx_uA h9 26 (x4.toNat) ((h9.2.1 1 1) - (h9.2.2.1 25 (x4.toNat))))))))))) :
    fx_V l M_FP_packStrips (0, 0) Q 0 0 3 [some (.ref 0), some (.ref 16), some (.int (zI x2)), some (.int (zI x3)), some (.int (zI x4))] [] h := by
  refine fx_iload d_FP_packStrips_3 rfl ?_
  refine fx_iload_n (i := 3) d_FP_packStrips_5 rfl rfl ?_
  obtain ⟨hz1, H⟩ := H
  obtain ⟨hz2, H⟩ := H
  refine fx_icmp_ge (t := 88) (n := 9) d_FP_packStrips_6 hz1 hz2 (fun z3 => ?_) (fun z3 => ?_)
  · replace H := H.1 z3
    exact fx_end none ⟨rfl, d_FP_packStrips_88⟩ (Nat.le_refl _) (Nat.le_refl _) rfl H
  · replace H := H.2 z3
    refine fx_iload d_FP_packStrips_9 rfl ?_
    refine fx_bipush (v := 24) d_FP_packStrips_11 rfl ?_
    refine fx_icmp_ge (t := 88) (n := 16) d_FP_packStrips_13 hz1 (show zR 24 by decide) (fun z4 => ?_) (fun z4 => ?_)
    · replace H := H.1 z4
      exact fx_end none ⟨rfl, d_FP_packStrips_88⟩ (Nat.le_refl _) (Nat.le_refl _) rfl H
    · replace H := H.2 z4
      refine fx_aload_n (i := 0) d_FP_packStrips_16 rfl rfl ?_
      refine fx_getR (q := 25) d_FP_packStrips_17 lk_FP_67 (at_0 (h := _) hS) rfl rfl ?_
      refine fx_iload d_FP_packStrips_20 rfl ?_
      refine fx_aload_n (i := 0) d_FP_packStrips_22 rfl rfl ?_
      refine fx_getR (q := 1) d_FP_packStrips_23 lk_FP_20 (at_0 (h := _) hS) rfl rfl ?_
      refine fx_getI d_FP_packStrips_26 lk_FP_160 (at_1 (h := _) hS) rfl ?_
      obtain ⟨hn5, H⟩ := H
      obtain ⟨hn6, H⟩ := H
      refine fx_iast d_FP_packStrips_29 (at_25 (h := _) hS) hn5 hn6 (by decide) ?_
      refine fx_aload_n (i := 1) d_FP_packStrips_30 rfl rfl ?_
      refine fx_aload_n (i := 0) d_FP_packStrips_31 rfl rfl ?_
      refine fx_getR (q := pp) d_FP_packStrips_32 lk_FP_77 (at_0 (h := _) hS) rfl rfl ?_
      refine fx_iload d_FP_packStrips_35 rfl ?_
      refine fx_iload_n (i := 2) d_FP_packStrips_37 rfl rfl ?_
      refine fx_imul d_FP_packStrips_38 ?_
      refine fx_aload_n (i := 0) d_FP_packStrips_39 rfl rfl ?_
      refine fx_getR (q := pp) d_FP_packStrips_40 lk_FP_77 (at_0 (h := _) hS) rfl rfl ?_
      refine fx_getI d_FP_packStrips_43 lk_FP_118 hp rfl ?_
      refine fx_iload d_FP_packStrips_46 rfl ?_
      refine fx_iconst d_FP_packStrips_48 ?_
      refine fx_iadd d_FP_packStrips_49 ?_
      refine fx_iload_n (i := 2) d_FP_packStrips_50 rfl rfl ?_
      refine fx_imul d_FP_packStrips_51 ?_
      obtain ⟨hz7, H⟩ := H
      obtain ⟨hz8, H⟩ := H
      refine fx_min d_FP_packStrips_52 mm_FP_228 mw_min_s mw_i mw_min_c ⟨by decide, by decide⟩ (Nat.le_of_ble_eq_true rfl) ⟨Nat.le_refl _, Nat.le_refl _⟩ hz7 hz8 ?_
      refine fx_callF (M' := M_TA_pack) (B' := (0, 0)) (vs := [.ref pp, .int (zI (x4 * x2)), .int (zI (if ((x4 + 1) * x2) < (h.2.1 pp 3) then (x4 + 1) * x2 else h.2.1 pp 3))]) (rest := []) (c1 := 0) (s1 := 0) (n := 60) d_FP_packStrips_55 cf_FP_packStrips_TA_pack (at_16 (h := _) hS) rfl rfl rfl ⟨by decide, by decide⟩ (Nat.le_of_ble_eq_true rfl) (Or.inl rfl) (fx_Mt.mono H fun v h9 hv => ?_)
      obtain ⟨rfl, e10, H⟩ := hv
      have hS9 := e10.trans hS
      have hp9 : h9.1[pp]? = some (hp_a, .inl (10, [some (pp + 1), none, none, none])) := by rw [e10]; exact hp
      have hx9 : h9.1[(pp + 1)]? = some (hx_a, .inr (0, 960)) := by rw [e10]; exact hx
      have hd9 : h9.1[dd]? = some (hd_a, .inl (10, [some (dd + 1), none, none, none])) := by rw [e10]; exact hd
      have hy9 : h9.1[(dd + 1)]? = some (hy_a, .inr (0, 960)) := by rw [e10]; exact hy
      show fx_V l M_FP_packStrips (0, 0) Q 0 0 60 [some (.ref 0), some (.ref 16), some (.int (zI x2)), some (.int (zI x3)), some (.int (zI x4))] [] h9
      refine fx_aload_n (i := 0) d_FP_packStrips_60 rfl rfl ?_
      refine fx_getR (q := 26) d_FP_packStrips_61 lk_FP_71 (at_0 (h := _) hS9) rfl rfl ?_
      refine fx_iload d_FP_packStrips_64 rfl ?_
      refine fx_aload_n (i := 0) d_FP_packStrips_66 rfl rfl ?_
      refine fx_getR (q := 1) d_FP_packStrips_67 lk_FP_20 (at_0 (h := _) hS9) rfl rfl ?_
      refine fx_getI d_FP_packStrips_70 lk_FP_160 (at_1 (h := _) hS9) rfl ?_
      refine fx_aload_n (i := 0) d_FP_packStrips_73 rfl rfl ?_
      refine fx_getR (q := 25) d_FP_packStrips_74 lk_FP_67 (at_0 (h := _) hS9) rfl rfl ?_
      refine fx_iload d_FP_packStrips_77 rfl ?_
      obtain ⟨hn11, H⟩ := H
      obtain ⟨hn12, H⟩ := H
      refine fx_iald d_FP_packStrips_79 (at_25 (h := _) hS9) hn11 hn12 (by decide) ?_
      refine fx_isub d_FP_packStrips_80 ?_
      obtain ⟨hn13, H⟩ := H
      obtain ⟨hn14, H⟩ := H
      refine fx_iast d_FP_packStrips_81 (at_26 (h := _) hS9) hn13 hn14 (by decide) ?_
      refine fx_iinc (v := x4 + 1) (ls2 := [some (.ref 0), some (.ref 16), some (.int (zI x2)), some (.int (zI x3)), some (.int (zI (x4 + 1)))]) d_FP_packStrips_82 rfl rfl (by decide) rfl ?_
      refine fx_goto (n := 3) d_FP_packStrips_85 ?_
      exact H

set_option maxRecDepth 100000 in
set_option maxHeartbeats 4000000 in
theorem e_FP_packStrips_23 {l : Launch} {Q : Option Value → fx_H → Prop} {h : fx_H}  {x : Int} {n : Int} {hp_a : Nat} {hx_a : Nat} {hd_a : Nat} {hy_a : Nat} {a : Nat → Nat} {pp dd : Nat} (hS : h.1 = fx_S0 a pp dd) (hp : h.1[pp]? = some (hp_a, .inl (10, [some (pp + 1), none, none, none]))) (hx : h.1[(pp + 1)]? = some (hx_a, .inr (0, 960))) (hd : h.1[dd]? = some (hd_a, .inl (10, [some (dd + 1), none, none, none]))) (hy : h.1[(dd + 1)]? = some (hy_a, .inr (0, 960)))
    (H : (fx_V l M_FP_packStrips (0, 0) Q 0 0 3 [some (.ref 0), some (.ref 23), some (.int (zI x)), some (.int (zI n)), some (.int (zI 0))] [] h)) :
    fx_Mt l M_FP_packStrips (0, 0) [.ref 0, .ref 23, .int (zI x), .int (zI n)] h Q := by
  refine fx_entry (ls := [some (.ref 0), some (.ref 23), some (.int (zI x)), some (.int (zI n)), none]) (by decide) (Nat.le_of_ble_eq_true rfl) rfl ?_
  refine fx_iconst d_FP_packStrips_0 ?_
  refine fx_istore (ls2 := [some (.ref 0), some (.ref 23), some (.int (zI x)), some (.int (zI n)), some (.int (zI 0))]) d_FP_packStrips_1 (by decide) rfl ?_
  exact H

set_option maxRecDepth 100000 in
set_option maxHeartbeats 4000000 in
theorem w_FP_packStrips_3_23 {l : Launch} {Q : Option Value → fx_H → Prop} {h : fx_H}  {x2 : Int} {x3 : Int} {x4 : Int} {hp_a : Nat} {hx_a : Nat} {hd_a : Nat} {hy_a : Nat} {a : Nat → Nat} {pp dd : Nat} (hS : h.1 = fx_S0 a pp dd) (hp : h.1[pp]? = some (hp_a, .inl (10, [some (pp + 1), none, none, none]))) (hx : h.1[(pp + 1)]? = some (hx_a, .inr (0, 960))) (hd : h.1[dd]? = some (hd_a, .inl (10, [some (dd + 1), none, none, none]))) (hy : h.1[(dd + 1)]? = some (hy_a, .inr (0, 960)))
    (H : zR x4 ∧ zR x3 ∧ ((x3 ≤ x4 → Q none h) ∧ (¬ (x3 ≤ x4) → ((24 ≤ x4 → Q none h) ∧ (¬ (24 ≤ x4) → 0 ≤ x4 ∧ x4 < 24 ∧ zR (h.2.1 pp 3) ∧ zR ((x4 + 1) * x2) ∧ fx_Mt l M_FX_pack (0, 0) [.ref 23, .ref pp, .int (zI (x4 * x2)), .int (zI (if ((x4 + 1) * x2) < (h.2.1 pp 3) then (x4 + 1) * x2 else h.2.1 pp 3))] (fx_uA h 25 (x4.toNat) (h.2.1 1 1)) (fun v h9 => v = none ∧ h9.1 = (fx_uA h 25 (x4.toNat) (h.2.1 1 1)).1 ∧ 0 ≤ x4 ∧ x4 < 24 ∧ 0 ≤ x4 ∧ x4 < 24 ∧ (fx_V l M_FP_packStrips (0, 0) Q 0 0 3 [some (.ref 0), some (.ref 23), some (.int (zI x2)), some (.int (zI x3)), some (.int (zI (x4 + 1)))] [] (fx_uA h9 26 (x4.toNat) ((h9.2.1 1 1) - (h9.2.2.1 25 (x4.toNat))))))))))) :
    fx_V l M_FP_packStrips (0, 0) Q 0 0 3 [some (.ref 0), some (.ref 23), some (.int (zI x2)), some (.int (zI x3)), some (.int (zI x4))] [] h := by
  refine fx_iload d_FP_packStrips_3 rfl ?_
  refine fx_iload_n (i := 3) d_FP_packStrips_5 rfl rfl ?_
  obtain ⟨hz1, H⟩ := H
  obtain ⟨hz2, H⟩ := H
  refine fx_icmp_ge (t := 88) (n := 9) d_FP_packStrips_6 hz1 hz2 (fun z3 => ?_) (fun z3 => ?_)
  · replace H := H.1 z3
    exact fx_end none ⟨rfl, d_FP_packStrips_88⟩ (Nat.le_refl _) (Nat.le_refl _) rfl H
  · replace H := H.2 z3
    refine fx_iload d_FP_packStrips_9 rfl ?_
    refine fx_bipush (v := 24) d_FP_packStrips_11 rfl ?_
    refine fx_icmp_ge (t := 88) (n := 16) d_FP_packStrips_13 hz1 (show zR 24 by decide) (fun z4 => ?_) (fun z4 => ?_)
    · replace H := H.1 z4
      exact fx_end none ⟨rfl, d_FP_packStrips_88⟩ (Nat.le_refl _) (Nat.le_refl _) rfl H
    · replace H := H.2 z4
      refine fx_aload_n (i := 0) d_FP_packStrips_16 rfl rfl ?_
      refine fx_getR (q := 25) d_FP_packStrips_17 lk_FP_67 (at_0 (h := _) hS) rfl rfl ?_
      refine fx_iload d_FP_packStrips_20 rfl ?_
      refine fx_aload_n (i := 0) d_FP_packStrips_22 rfl rfl ?_
      refine fx_getR (q := 1) d_FP_packStrips_23 lk_FP_20 (at_0 (h := _) hS) rfl rfl ?_
      refine fx_getI d_FP_packStrips_26 lk_FP_160 (at_1 (h := _) hS) rfl ?_
      obtain ⟨hn5, H⟩ := H
      obtain ⟨hn6, H⟩ := H
      refine fx_iast d_FP_packStrips_29 (at_25 (h := _) hS) hn5 hn6 (by decide) ?_
      refine fx_aload_n (i := 1) d_FP_packStrips_30 rfl rfl ?_
      refine fx_aload_n (i := 0) d_FP_packStrips_31 rfl rfl ?_
      refine fx_getR (q := pp) d_FP_packStrips_32 lk_FP_77 (at_0 (h := _) hS) rfl rfl ?_
      refine fx_iload d_FP_packStrips_35 rfl ?_
      refine fx_iload_n (i := 2) d_FP_packStrips_37 rfl rfl ?_
      refine fx_imul d_FP_packStrips_38 ?_
      refine fx_aload_n (i := 0) d_FP_packStrips_39 rfl rfl ?_
      refine fx_getR (q := pp) d_FP_packStrips_40 lk_FP_77 (at_0 (h := _) hS) rfl rfl ?_
      refine fx_getI d_FP_packStrips_43 lk_FP_118 hp rfl ?_
      refine fx_iload d_FP_packStrips_46 rfl ?_
      refine fx_iconst d_FP_packStrips_48 ?_
      refine fx_iadd d_FP_packStrips_49 ?_
      refine fx_iload_n (i := 2) d_FP_packStrips_50 rfl rfl ?_
      refine fx_imul d_FP_packStrips_51 ?_
      obtain ⟨hz7, H⟩ := H
      obtain ⟨hz8, H⟩ := H
      refine fx_min d_FP_packStrips_52 mm_FP_228 mw_min_s mw_i mw_min_c ⟨by decide, by decide⟩ (Nat.le_of_ble_eq_true rfl) ⟨Nat.le_refl _, Nat.le_refl _⟩ hz7 hz8 ?_
      refine fx_callF (M' := M_FX_pack) (B' := (0, 0)) (vs := [.ref pp, .int (zI (x4 * x2)), .int (zI (if ((x4 + 1) * x2) < (h.2.1 pp 3) then (x4 + 1) * x2 else h.2.1 pp 3))]) (rest := []) (c1 := 0) (s1 := 0) (n := 60) d_FP_packStrips_55 cf_FP_packStrips_FX_pack (at_23 (h := _) hS) rfl rfl rfl ⟨by decide, by decide⟩ (Nat.le_of_ble_eq_true rfl) (Or.inl rfl) (fx_Mt.mono H fun v h9 hv => ?_)
      obtain ⟨rfl, e10, H⟩ := hv
      have hS9 := e10.trans hS
      have hp9 : h9.1[pp]? = some (hp_a, .inl (10, [some (pp + 1), none, none, none])) := by rw [e10]; exact hp
      have hx9 : h9.1[(pp + 1)]? = some (hx_a, .inr (0, 960)) := by rw [e10]; exact hx
      have hd9 : h9.1[dd]? = some (hd_a, .inl (10, [some (dd + 1), none, none, none])) := by rw [e10]; exact hd
      have hy9 : h9.1[(dd + 1)]? = some (hy_a, .inr (0, 960)) := by rw [e10]; exact hy
      show fx_V l M_FP_packStrips (0, 0) Q 0 0 60 [some (.ref 0), some (.ref 23), some (.int (zI x2)), some (.int (zI x3)), some (.int (zI x4))] [] h9
      refine fx_aload_n (i := 0) d_FP_packStrips_60 rfl rfl ?_
      refine fx_getR (q := 26) d_FP_packStrips_61 lk_FP_71 (at_0 (h := _) hS9) rfl rfl ?_
      refine fx_iload d_FP_packStrips_64 rfl ?_
      refine fx_aload_n (i := 0) d_FP_packStrips_66 rfl rfl ?_
      refine fx_getR (q := 1) d_FP_packStrips_67 lk_FP_20 (at_0 (h := _) hS9) rfl rfl ?_
      refine fx_getI d_FP_packStrips_70 lk_FP_160 (at_1 (h := _) hS9) rfl ?_
      refine fx_aload_n (i := 0) d_FP_packStrips_73 rfl rfl ?_
      refine fx_getR (q := 25) d_FP_packStrips_74 lk_FP_67 (at_0 (h := _) hS9) rfl rfl ?_
      refine fx_iload d_FP_packStrips_77 rfl ?_
      obtain ⟨hn11, H⟩ := H
      obtain ⟨hn12, H⟩ := H
      refine fx_iald d_FP_packStrips_79 (at_25 (h := _) hS9) hn11 hn12 (by decide) ?_
      refine fx_isub d_FP_packStrips_80 ?_
      obtain ⟨hn13, H⟩ := H
      obtain ⟨hn14, H⟩ := H
      refine fx_iast d_FP_packStrips_81 (at_26 (h := _) hS9) hn13 hn14 (by decide) ?_
      refine fx_iinc (v := x4 + 1) (ls2 := [some (.ref 0), some (.ref 23), some (.int (zI x2)), some (.int (zI x3)), some (.int (zI (x4 + 1)))]) d_FP_packStrips_82 rfl rfl (by decide) rfl ?_
      refine fx_goto (n := 3) d_FP_packStrips_85 ?_
      exact H

set_option maxRecDepth 100000 in
set_option maxHeartbeats 4000000 in
theorem e_FP_packStrips_24 {l : Launch} {Q : Option Value → fx_H → Prop} {h : fx_H}  {x : Int} {n : Int} {hp_a : Nat} {hx_a : Nat} {hd_a : Nat} {hy_a : Nat} {a : Nat → Nat} {pp dd : Nat} (hS : h.1 = fx_S0 a pp dd) (hp : h.1[pp]? = some (hp_a, .inl (10, [some (pp + 1), none, none, none]))) (hx : h.1[(pp + 1)]? = some (hx_a, .inr (0, 960))) (hd : h.1[dd]? = some (hd_a, .inl (10, [some (dd + 1), none, none, none]))) (hy : h.1[(dd + 1)]? = some (hy_a, .inr (0, 960)))
    (H : (fx_V l M_FP_packStrips (0, 0) Q 0 0 3 [some (.ref 0), some (.ref 24), some (.int (zI x)), some (.int (zI n)), some (.int (zI 0))] [] h)) :
    fx_Mt l M_FP_packStrips (0, 0) [.ref 0, .ref 24, .int (zI x), .int (zI n)] h Q := by
  refine fx_entry (ls := [some (.ref 0), some (.ref 24), some (.int (zI x)), some (.int (zI n)), none]) (by decide) (Nat.le_of_ble_eq_true rfl) rfl ?_
  refine fx_iconst d_FP_packStrips_0 ?_
  refine fx_istore (ls2 := [some (.ref 0), some (.ref 24), some (.int (zI x)), some (.int (zI n)), some (.int (zI 0))]) d_FP_packStrips_1 (by decide) rfl ?_
  exact H

set_option maxRecDepth 100000 in
set_option maxHeartbeats 4000000 in
theorem w_FP_packStrips_3_24 {l : Launch} {Q : Option Value → fx_H → Prop} {h : fx_H}  {x2 : Int} {x3 : Int} {x4 : Int} {hp_a : Nat} {hx_a : Nat} {hd_a : Nat} {hy_a : Nat} {a : Nat → Nat} {pp dd : Nat} (hS : h.1 = fx_S0 a pp dd) (hp : h.1[pp]? = some (hp_a, .inl (10, [some (pp + 1), none, none, none]))) (hx : h.1[(pp + 1)]? = some (hx_a, .inr (0, 960))) (hd : h.1[dd]? = some (hd_a, .inl (10, [some (dd + 1), none, none, none]))) (hy : h.1[(dd + 1)]? = some (hy_a, .inr (0, 960)))
    (H : zR x4 ∧ zR x3 ∧ ((x3 ≤ x4 → Q none h) ∧ (¬ (x3 ≤ x4) → ((24 ≤ x4 → Q none h) ∧ (¬ (24 ≤ x4) → 0 ≤ x4 ∧ x4 < 24 ∧ zR (h.2.1 pp 3) ∧ zR ((x4 + 1) * x2) ∧ fx_Mt l M_FX_pack (0, 0) [.ref 24, .ref pp, .int (zI (x4 * x2)), .int (zI (if ((x4 + 1) * x2) < (h.2.1 pp 3) then (x4 + 1) * x2 else h.2.1 pp 3))] (fx_uA h 25 (x4.toNat) (h.2.1 1 1)) (fun v h9 => v = none ∧ h9.1 = (fx_uA h 25 (x4.toNat) (h.2.1 1 1)).1 ∧ 0 ≤ x4 ∧ x4 < 24 ∧ 0 ≤ x4 ∧ x4 < 24 ∧ (fx_V l M_FP_packStrips (0, 0) Q 0 0 3 [some (.ref 0), some (.ref 24), some (.int (zI x2)), some (.int (zI x3)), some (.int (zI (x4 + 1)))] [] (fx_uA h9 26 (x4.toNat) ((h9.2.1 1 1) - (h9.2.2.1 25 (x4.toNat))))))))))) :
    fx_V l M_FP_packStrips (0, 0) Q 0 0 3 [some (.ref 0), some (.ref 24), some (.int (zI x2)), some (.int (zI x3)), some (.int (zI x4))] [] h := by
  refine fx_iload d_FP_packStrips_3 rfl ?_
  refine fx_iload_n (i := 3) d_FP_packStrips_5 rfl rfl ?_
  obtain ⟨hz1, H⟩ := H
  obtain ⟨hz2, H⟩ := H
  refine fx_icmp_ge (t := 88) (n := 9) d_FP_packStrips_6 hz1 hz2 (fun z3 => ?_) (fun z3 => ?_)
  · replace H := H.1 z3
    exact fx_end none ⟨rfl, d_FP_packStrips_88⟩ (Nat.le_refl _) (Nat.le_refl _) rfl H
  · replace H := H.2 z3
    refine fx_iload d_FP_packStrips_9 rfl ?_
    refine fx_bipush (v := 24) d_FP_packStrips_11 rfl ?_
    refine fx_icmp_ge (t := 88) (n := 16) d_FP_packStrips_13 hz1 (show zR 24 by decide) (fun z4 => ?_) (fun z4 => ?_)
    · replace H := H.1 z4
      exact fx_end none ⟨rfl, d_FP_packStrips_88⟩ (Nat.le_refl _) (Nat.le_refl _) rfl H
    · replace H := H.2 z4
      refine fx_aload_n (i := 0) d_FP_packStrips_16 rfl rfl ?_
      refine fx_getR (q := 25) d_FP_packStrips_17 lk_FP_67 (at_0 (h := _) hS) rfl rfl ?_
      refine fx_iload d_FP_packStrips_20 rfl ?_
      refine fx_aload_n (i := 0) d_FP_packStrips_22 rfl rfl ?_
      refine fx_getR (q := 1) d_FP_packStrips_23 lk_FP_20 (at_0 (h := _) hS) rfl rfl ?_
      refine fx_getI d_FP_packStrips_26 lk_FP_160 (at_1 (h := _) hS) rfl ?_
      obtain ⟨hn5, H⟩ := H
      obtain ⟨hn6, H⟩ := H
      refine fx_iast d_FP_packStrips_29 (at_25 (h := _) hS) hn5 hn6 (by decide) ?_
      refine fx_aload_n (i := 1) d_FP_packStrips_30 rfl rfl ?_
      refine fx_aload_n (i := 0) d_FP_packStrips_31 rfl rfl ?_
      refine fx_getR (q := pp) d_FP_packStrips_32 lk_FP_77 (at_0 (h := _) hS) rfl rfl ?_
      refine fx_iload d_FP_packStrips_35 rfl ?_
      refine fx_iload_n (i := 2) d_FP_packStrips_37 rfl rfl ?_
      refine fx_imul d_FP_packStrips_38 ?_
      refine fx_aload_n (i := 0) d_FP_packStrips_39 rfl rfl ?_
      refine fx_getR (q := pp) d_FP_packStrips_40 lk_FP_77 (at_0 (h := _) hS) rfl rfl ?_
      refine fx_getI d_FP_packStrips_43 lk_FP_118 hp rfl ?_
      refine fx_iload d_FP_packStrips_46 rfl ?_
      refine fx_iconst d_FP_packStrips_48 ?_
      refine fx_iadd d_FP_packStrips_49 ?_
      refine fx_iload_n (i := 2) d_FP_packStrips_50 rfl rfl ?_
      refine fx_imul d_FP_packStrips_51 ?_
      obtain ⟨hz7, H⟩ := H
      obtain ⟨hz8, H⟩ := H
      refine fx_min d_FP_packStrips_52 mm_FP_228 mw_min_s mw_i mw_min_c ⟨by decide, by decide⟩ (Nat.le_of_ble_eq_true rfl) ⟨Nat.le_refl _, Nat.le_refl _⟩ hz7 hz8 ?_
      refine fx_callF (M' := M_FX_pack) (B' := (0, 0)) (vs := [.ref pp, .int (zI (x4 * x2)), .int (zI (if ((x4 + 1) * x2) < (h.2.1 pp 3) then (x4 + 1) * x2 else h.2.1 pp 3))]) (rest := []) (c1 := 0) (s1 := 0) (n := 60) d_FP_packStrips_55 cf_FP_packStrips_FX_pack (at_24 (h := _) hS) rfl rfl rfl ⟨by decide, by decide⟩ (Nat.le_of_ble_eq_true rfl) (Or.inl rfl) (fx_Mt.mono H fun v h9 hv => ?_)
      obtain ⟨rfl, e10, H⟩ := hv
      have hS9 := e10.trans hS
      have hp9 : h9.1[pp]? = some (hp_a, .inl (10, [some (pp + 1), none, none, none])) := by rw [e10]; exact hp
      have hx9 : h9.1[(pp + 1)]? = some (hx_a, .inr (0, 960)) := by rw [e10]; exact hx
      have hd9 : h9.1[dd]? = some (hd_a, .inl (10, [some (dd + 1), none, none, none])) := by rw [e10]; exact hd
      have hy9 : h9.1[(dd + 1)]? = some (hy_a, .inr (0, 960)) := by rw [e10]; exact hy
      show fx_V l M_FP_packStrips (0, 0) Q 0 0 60 [some (.ref 0), some (.ref 24), some (.int (zI x2)), some (.int (zI x3)), some (.int (zI x4))] [] h9
      refine fx_aload_n (i := 0) d_FP_packStrips_60 rfl rfl ?_
      refine fx_getR (q := 26) d_FP_packStrips_61 lk_FP_71 (at_0 (h := _) hS9) rfl rfl ?_
      refine fx_iload d_FP_packStrips_64 rfl ?_
      refine fx_aload_n (i := 0) d_FP_packStrips_66 rfl rfl ?_
      refine fx_getR (q := 1) d_FP_packStrips_67 lk_FP_20 (at_0 (h := _) hS9) rfl rfl ?_
      refine fx_getI d_FP_packStrips_70 lk_FP_160 (at_1 (h := _) hS9) rfl ?_
      refine fx_aload_n (i := 0) d_FP_packStrips_73 rfl rfl ?_
      refine fx_getR (q := 25) d_FP_packStrips_74 lk_FP_67 (at_0 (h := _) hS9) rfl rfl ?_
      refine fx_iload d_FP_packStrips_77 rfl ?_
      obtain ⟨hn11, H⟩ := H
      obtain ⟨hn12, H⟩ := H
      refine fx_iald d_FP_packStrips_79 (at_25 (h := _) hS9) hn11 hn12 (by decide) ?_
      refine fx_isub d_FP_packStrips_80 ?_
      obtain ⟨hn13, H⟩ := H
      obtain ⟨hn14, H⟩ := H
      refine fx_iast d_FP_packStrips_81 (at_26 (h := _) hS9) hn13 hn14 (by decide) ?_
      refine fx_iinc (v := x4 + 1) (ls2 := [some (.ref 0), some (.ref 24), some (.int (zI x2)), some (.int (zI x3)), some (.int (zI (x4 + 1)))]) d_FP_packStrips_82 rfl rfl (by decide) rfl ?_
      refine fx_goto (n := 3) d_FP_packStrips_85 ?_
      exact H

set_option maxRecDepth 100000 in
set_option maxHeartbeats 4000000 in
theorem e_FP_unpackStrips {l : Launch} {Q : Option Value → fx_H → Prop} {h : fx_H}   {hp_a : Nat} {hx_a : Nat} {hd_a : Nat} {hy_a : Nat} {a : Nat → Nat} {pp dd : Nat} (hS : h.1 = fx_S0 a pp dd) (hp : h.1[pp]? = some (hp_a, .inl (10, [some (pp + 1), none, none, none]))) (hx : h.1[(pp + 1)]? = some (hx_a, .inr (0, 960))) (hd : h.1[dd]? = some (hd_a, .inl (10, [some (dd + 1), none, none, none]))) (hy : h.1[(dd + 1)]? = some (hy_a, .inr (0, 960)))
    (H : fx_Mt l M_FP_packingOf (0, 0) [.ref 0, .int (zI (h.2.1 11 5))] h (fun v h1 => ∃ q3 : Nat, v = some (.ref q3) ∧ (q3 = 13 ∨ q3 = 14 ∨ q3 = 16 ∨ q3 = 23 ∨ q3 = 24) ∧ h1.1 = h.1 ∧ fx_Mt l M_PI_clear (0, 0) [.ref dd, .int (zI (h1.2.1 11 2)), .int (zI (h1.2.1 11 3)), .int (zI (h1.2.1 11 4))] h1 (fun v h4 => v = none ∧ h4.1 = h1.1 ∧ (fx_V l M_FP_unpackStrips (0, 0) Q 0 0 42 [some (.ref 0), some (.ref q3), some (.int (zI 0))] [] h4)))) :
    fx_Mt l M_FP_unpackStrips (0, 0) [.ref 0] h Q := by
  refine fx_entry (ls := [some (.ref 0), none, none]) (by decide) (Nat.le_of_ble_eq_true rfl) rfl ?_
  refine fx_aload_n (i := 0) d_FP_unpackStrips_0 rfl rfl ?_
  refine fx_aload_n (i := 0) d_FP_unpackStrips_1 rfl rfl ?_
  refine fx_getR (q := 11) d_FP_unpackStrips_2 lk_FP_33 (at_0 (h := _) hS) rfl rfl ?_
  refine fx_getI d_FP_unpackStrips_5 lk_FP_176 (at_11 (h := _) hS) rfl ?_
  refine fx_callV (M' := M_FP_packingOf) (B' := (0, 0)) (vs := [.int (zI (h.2.1 11 5))]) (rest := []) (c1 := 0) (s1 := 0) (n := 11) d_FP_unpackStrips_8 ca_FP_unpackStrips_145 (at_0 (h := _) hS) rfl rfl rfl ⟨by decide, by decide⟩ (Nat.le_of_ble_eq_true rfl) (Or.inl rfl) (fx_Mt.mono H fun v h1 hv => ?_)
  obtain ⟨q3, rfl, hcq3, e2, H⟩ := hv
  have hS1 := e2.trans hS
  have hp1 : h1.1[pp]? = some (hp_a, .inl (10, [some (pp + 1), none, none, none])) := by rw [e2]; exact hp
  have hx1 : h1.1[(pp + 1)]? = some (hx_a, .inr (0, 960)) := by rw [e2]; exact hx
  have hd1 : h1.1[dd]? = some (hd_a, .inl (10, [some (dd + 1), none, none, none])) := by rw [e2]; exact hd
  have hy1 : h1.1[(dd + 1)]? = some (hy_a, .inr (0, 960)) := by rw [e2]; exact hy
  rcases hcq3 with rfl | rfl | rfl | rfl | rfl
  · show fx_V l M_FP_unpackStrips (0, 0) Q 0 0 11 [some (.ref 0), none, none] [.ref 13] h1
    refine fx_astore_n (i := 1) (ls2 := [some (.ref 0), some (.ref 13), none]) d_FP_unpackStrips_11 rfl (by decide) rfl ?_
    refine fx_aload_n (i := 0) d_FP_unpackStrips_12 rfl rfl ?_
    refine fx_getR (q := dd) d_FP_unpackStrips_13 lk_FP_81 (at_0 (h := _) hS1) rfl rfl ?_
    refine fx_aload_n (i := 0) d_FP_unpackStrips_16 rfl rfl ?_
    refine fx_getR (q := 11) d_FP_unpackStrips_17 lk_FP_33 (at_0 (h := _) hS1) rfl rfl ?_
    refine fx_getI d_FP_unpackStrips_20 lk_FP_239 (at_11 (h := _) hS1) rfl ?_
    refine fx_aload_n (i := 0) d_FP_unpackStrips_23 rfl rfl ?_
    refine fx_getR (q := 11) d_FP_unpackStrips_24 lk_FP_33 (at_0 (h := _) hS1) rfl rfl ?_
    refine fx_getI d_FP_unpackStrips_27 lk_FP_240 (at_11 (h := _) hS1) rfl ?_
    refine fx_aload_n (i := 0) d_FP_unpackStrips_30 rfl rfl ?_
    refine fx_getR (q := 11) d_FP_unpackStrips_31 lk_FP_33 (at_0 (h := _) hS1) rfl rfl ?_
    refine fx_getI d_FP_unpackStrips_34 lk_FP_241 (at_11 (h := _) hS1) rfl ?_
    refine fx_callV (M' := M_PI_clear) (B' := (0, 0)) (vs := [.int (zI (h1.2.1 11 2)), .int (zI (h1.2.1 11 3)), .int (zI (h1.2.1 11 4))]) (rest := []) (c1 := 0) (s1 := 0) (n := 40) d_FP_unpackStrips_37 ca_FP_unpackStrips_91 hd1 rfl rfl rfl ⟨by decide, by decide⟩ (Nat.le_of_ble_eq_true rfl) (Or.inl rfl) (fx_Mt.mono H fun v h4 hv => ?_)
    obtain ⟨rfl, e5, H⟩ := hv
    have hS4 := e5.trans hS1
    have hp4 : h4.1[pp]? = some (hp_a, .inl (10, [some (pp + 1), none, none, none])) := by rw [e5]; exact hp1
    have hx4 : h4.1[(pp + 1)]? = some (hx_a, .inr (0, 960)) := by rw [e5]; exact hx1
    have hd4 : h4.1[dd]? = some (hd_a, .inl (10, [some (dd + 1), none, none, none])) := by rw [e5]; exact hd1
    have hy4 : h4.1[(dd + 1)]? = some (hy_a, .inr (0, 960)) := by rw [e5]; exact hy1
    show fx_V l M_FP_unpackStrips (0, 0) Q 0 0 40 [some (.ref 0), some (.ref 13), none] [] h4
    refine fx_iconst d_FP_unpackStrips_40 ?_
    refine fx_istore_n (i := 2) (ls2 := [some (.ref 0), some (.ref 13), some (.int (zI 0))]) d_FP_unpackStrips_41 rfl (by decide) rfl ?_
    exact H
  · show fx_V l M_FP_unpackStrips (0, 0) Q 0 0 11 [some (.ref 0), none, none] [.ref 14] h1
    refine fx_astore_n (i := 1) (ls2 := [some (.ref 0), some (.ref 14), none]) d_FP_unpackStrips_11 rfl (by decide) rfl ?_
    refine fx_aload_n (i := 0) d_FP_unpackStrips_12 rfl rfl ?_
    refine fx_getR (q := dd) d_FP_unpackStrips_13 lk_FP_81 (at_0 (h := _) hS1) rfl rfl ?_
    refine fx_aload_n (i := 0) d_FP_unpackStrips_16 rfl rfl ?_
    refine fx_getR (q := 11) d_FP_unpackStrips_17 lk_FP_33 (at_0 (h := _) hS1) rfl rfl ?_
    refine fx_getI d_FP_unpackStrips_20 lk_FP_239 (at_11 (h := _) hS1) rfl ?_
    refine fx_aload_n (i := 0) d_FP_unpackStrips_23 rfl rfl ?_
    refine fx_getR (q := 11) d_FP_unpackStrips_24 lk_FP_33 (at_0 (h := _) hS1) rfl rfl ?_
    refine fx_getI d_FP_unpackStrips_27 lk_FP_240 (at_11 (h := _) hS1) rfl ?_
    refine fx_aload_n (i := 0) d_FP_unpackStrips_30 rfl rfl ?_
    refine fx_getR (q := 11) d_FP_unpackStrips_31 lk_FP_33 (at_0 (h := _) hS1) rfl rfl ?_
    refine fx_getI d_FP_unpackStrips_34 lk_FP_241 (at_11 (h := _) hS1) rfl ?_
    refine fx_callV (M' := M_PI_clear) (B' := (0, 0)) (vs := [.int (zI (h1.2.1 11 2)), .int (zI (h1.2.1 11 3)), .int (zI (h1.2.1 11 4))]) (rest := []) (c1 := 0) (s1 := 0) (n := 40) d_FP_unpackStrips_37 ca_FP_unpackStrips_91 hd1 rfl rfl rfl ⟨by decide, by decide⟩ (Nat.le_of_ble_eq_true rfl) (Or.inl rfl) (fx_Mt.mono H fun v h4 hv => ?_)
    obtain ⟨rfl, e5, H⟩ := hv
    have hS4 := e5.trans hS1
    have hp4 : h4.1[pp]? = some (hp_a, .inl (10, [some (pp + 1), none, none, none])) := by rw [e5]; exact hp1
    have hx4 : h4.1[(pp + 1)]? = some (hx_a, .inr (0, 960)) := by rw [e5]; exact hx1
    have hd4 : h4.1[dd]? = some (hd_a, .inl (10, [some (dd + 1), none, none, none])) := by rw [e5]; exact hd1
    have hy4 : h4.1[(dd + 1)]? = some (hy_a, .inr (0, 960)) := by rw [e5]; exact hy1
    show fx_V l M_FP_unpackStrips (0, 0) Q 0 0 40 [some (.ref 0), some (.ref 14), none] [] h4
    refine fx_iconst d_FP_unpackStrips_40 ?_
    refine fx_istore_n (i := 2) (ls2 := [some (.ref 0), some (.ref 14), some (.int (zI 0))]) d_FP_unpackStrips_41 rfl (by decide) rfl ?_
    exact H
  · show fx_V l M_FP_unpackStrips (0, 0) Q 0 0 11 [some (.ref 0), none, none] [.ref 16] h1
    refine fx_astore_n (i := 1) (ls2 := [some (.ref 0), some (.ref 16), none]) d_FP_unpackStrips_11 rfl (by decide) rfl ?_
    refine fx_aload_n (i := 0) d_FP_unpackStrips_12 rfl rfl ?_
    refine fx_getR (q := dd) d_FP_unpackStrips_13 lk_FP_81 (at_0 (h := _) hS1) rfl rfl ?_
    refine fx_aload_n (i := 0) d_FP_unpackStrips_16 rfl rfl ?_
    refine fx_getR (q := 11) d_FP_unpackStrips_17 lk_FP_33 (at_0 (h := _) hS1) rfl rfl ?_
    refine fx_getI d_FP_unpackStrips_20 lk_FP_239 (at_11 (h := _) hS1) rfl ?_
    refine fx_aload_n (i := 0) d_FP_unpackStrips_23 rfl rfl ?_
    refine fx_getR (q := 11) d_FP_unpackStrips_24 lk_FP_33 (at_0 (h := _) hS1) rfl rfl ?_
    refine fx_getI d_FP_unpackStrips_27 lk_FP_240 (at_11 (h := _) hS1) rfl ?_
    refine fx_aload_n (i := 0) d_FP_unpackStrips_30 rfl rfl ?_
    refine fx_getR (q := 11) d_FP_unpackStrips_31 lk_FP_33 (at_0 (h := _) hS1) rfl rfl ?_
    refine fx_getI d_FP_unpackStrips_34 lk_FP_241 (at_11 (h := _) hS1) rfl ?_
    refine fx_callV (M' := M_PI_clear) (B' := (0, 0)) (vs := [.int (zI (h1.2.1 11 2)), .int (zI (h1.2.1 11 3)), .int (zI (h1.2.1 11 4))]) (rest := []) (c1 := 0) (s1 := 0) (n := 40) d_FP_unpackStrips_37 ca_FP_unpackStrips_91 hd1 rfl rfl rfl ⟨by decide, by decide⟩ (Nat.le_of_ble_eq_true rfl) (Or.inl rfl) (fx_Mt.mono H fun v h4 hv => ?_)
    obtain ⟨rfl, e5, H⟩ := hv
    have hS4 := e5.trans hS1
    have hp4 : h4.1[pp]? = some (hp_a, .inl (10, [some (pp + 1), none, none, none])) := by rw [e5]; exact hp1
    have hx4 : h4.1[(pp + 1)]? = some (hx_a, .inr (0, 960)) := by rw [e5]; exact hx1
    have hd4 : h4.1[dd]? = some (hd_a, .inl (10, [some (dd + 1), none, none, none])) := by rw [e5]; exact hd1
    have hy4 : h4.1[(dd + 1)]? = some (hy_a, .inr (0, 960)) := by rw [e5]; exact hy1
    show fx_V l M_FP_unpackStrips (0, 0) Q 0 0 40 [some (.ref 0), some (.ref 16), none] [] h4
    refine fx_iconst d_FP_unpackStrips_40 ?_
    refine fx_istore_n (i := 2) (ls2 := [some (.ref 0), some (.ref 16), some (.int (zI 0))]) d_FP_unpackStrips_41 rfl (by decide) rfl ?_
    exact H
  · show fx_V l M_FP_unpackStrips (0, 0) Q 0 0 11 [some (.ref 0), none, none] [.ref 23] h1
    refine fx_astore_n (i := 1) (ls2 := [some (.ref 0), some (.ref 23), none]) d_FP_unpackStrips_11 rfl (by decide) rfl ?_
    refine fx_aload_n (i := 0) d_FP_unpackStrips_12 rfl rfl ?_
    refine fx_getR (q := dd) d_FP_unpackStrips_13 lk_FP_81 (at_0 (h := _) hS1) rfl rfl ?_
    refine fx_aload_n (i := 0) d_FP_unpackStrips_16 rfl rfl ?_
    refine fx_getR (q := 11) d_FP_unpackStrips_17 lk_FP_33 (at_0 (h := _) hS1) rfl rfl ?_
    refine fx_getI d_FP_unpackStrips_20 lk_FP_239 (at_11 (h := _) hS1) rfl ?_
    refine fx_aload_n (i := 0) d_FP_unpackStrips_23 rfl rfl ?_
    refine fx_getR (q := 11) d_FP_unpackStrips_24 lk_FP_33 (at_0 (h := _) hS1) rfl rfl ?_
    refine fx_getI d_FP_unpackStrips_27 lk_FP_240 (at_11 (h := _) hS1) rfl ?_
    refine fx_aload_n (i := 0) d_FP_unpackStrips_30 rfl rfl ?_
    refine fx_getR (q := 11) d_FP_unpackStrips_31 lk_FP_33 (at_0 (h := _) hS1) rfl rfl ?_
    refine fx_getI d_FP_unpackStrips_34 lk_FP_241 (at_11 (h := _) hS1) rfl ?_
    refine fx_callV (M' := M_PI_clear) (B' := (0, 0)) (vs := [.int (zI (h1.2.1 11 2)), .int (zI (h1.2.1 11 3)), .int (zI (h1.2.1 11 4))]) (rest := []) (c1 := 0) (s1 := 0) (n := 40) d_FP_unpackStrips_37 ca_FP_unpackStrips_91 hd1 rfl rfl rfl ⟨by decide, by decide⟩ (Nat.le_of_ble_eq_true rfl) (Or.inl rfl) (fx_Mt.mono H fun v h4 hv => ?_)
    obtain ⟨rfl, e5, H⟩ := hv
    have hS4 := e5.trans hS1
    have hp4 : h4.1[pp]? = some (hp_a, .inl (10, [some (pp + 1), none, none, none])) := by rw [e5]; exact hp1
    have hx4 : h4.1[(pp + 1)]? = some (hx_a, .inr (0, 960)) := by rw [e5]; exact hx1
    have hd4 : h4.1[dd]? = some (hd_a, .inl (10, [some (dd + 1), none, none, none])) := by rw [e5]; exact hd1
    have hy4 : h4.1[(dd + 1)]? = some (hy_a, .inr (0, 960)) := by rw [e5]; exact hy1
    show fx_V l M_FP_unpackStrips (0, 0) Q 0 0 40 [some (.ref 0), some (.ref 23), none] [] h4
    refine fx_iconst d_FP_unpackStrips_40 ?_
    refine fx_istore_n (i := 2) (ls2 := [some (.ref 0), some (.ref 23), some (.int (zI 0))]) d_FP_unpackStrips_41 rfl (by decide) rfl ?_
    exact H
  · show fx_V l M_FP_unpackStrips (0, 0) Q 0 0 11 [some (.ref 0), none, none] [.ref 24] h1
    refine fx_astore_n (i := 1) (ls2 := [some (.ref 0), some (.ref 24), none]) d_FP_unpackStrips_11 rfl (by decide) rfl ?_
    refine fx_aload_n (i := 0) d_FP_unpackStrips_12 rfl rfl ?_
    refine fx_getR (q := dd) d_FP_unpackStrips_13 lk_FP_81 (at_0 (h := _) hS1) rfl rfl ?_
    refine fx_aload_n (i := 0) d_FP_unpackStrips_16 rfl rfl ?_
    refine fx_getR (q := 11) d_FP_unpackStrips_17 lk_FP_33 (at_0 (h := _) hS1) rfl rfl ?_
    refine fx_getI d_FP_unpackStrips_20 lk_FP_239 (at_11 (h := _) hS1) rfl ?_
    refine fx_aload_n (i := 0) d_FP_unpackStrips_23 rfl rfl ?_
    refine fx_getR (q := 11) d_FP_unpackStrips_24 lk_FP_33 (at_0 (h := _) hS1) rfl rfl ?_
    refine fx_getI d_FP_unpackStrips_27 lk_FP_240 (at_11 (h := _) hS1) rfl ?_
    refine fx_aload_n (i := 0) d_FP_unpackStrips_30 rfl rfl ?_
    refine fx_getR (q := 11) d_FP_unpackStrips_31 lk_FP_33 (at_0 (h := _) hS1) rfl rfl ?_
    refine fx_getI d_FP_unpackStrips_34 lk_FP_241 (at_11 (h := _) hS1) rfl ?_
    refine fx_callV (M' := M_PI_clear) (B' := (0, 0)) (vs := [.int (zI (h1.2.1 11 2)), .int (zI (h1.2.1 11 3)), .int (zI (h1.2.1 11 4))]) (rest := []) (c1 := 0) (s1 := 0) (n := 40) d_FP_unpackStrips_37 ca_FP_unpackStrips_91 hd1 rfl rfl rfl ⟨by decide, by decide⟩ (Nat.le_of_ble_eq_true rfl) (Or.inl rfl) (fx_Mt.mono H fun v h4 hv => ?_)
    obtain ⟨rfl, e5, H⟩ := hv
    have hS4 := e5.trans hS1
    have hp4 : h4.1[pp]? = some (hp_a, .inl (10, [some (pp + 1), none, none, none])) := by rw [e5]; exact hp1
    have hx4 : h4.1[(pp + 1)]? = some (hx_a, .inr (0, 960)) := by rw [e5]; exact hx1
    have hd4 : h4.1[dd]? = some (hd_a, .inl (10, [some (dd + 1), none, none, none])) := by rw [e5]; exact hd1
    have hy4 : h4.1[(dd + 1)]? = some (hy_a, .inr (0, 960)) := by rw [e5]; exact hy1
    show fx_V l M_FP_unpackStrips (0, 0) Q 0 0 40 [some (.ref 0), some (.ref 24), none] [] h4
    refine fx_iconst d_FP_unpackStrips_40 ?_
    refine fx_istore_n (i := 2) (ls2 := [some (.ref 0), some (.ref 24), some (.int (zI 0))]) d_FP_unpackStrips_41 rfl (by decide) rfl ?_
    exact H

set_option maxRecDepth 100000 in
set_option maxHeartbeats 4000000 in
theorem w_FP_unpackStrips_42_13 {l : Launch} {Q : Option Value → fx_H → Prop} {h : fx_H}  {x2 : Int} {hp_a : Nat} {hx_a : Nat} {hd_a : Nat} {hy_a : Nat} {a : Nat → Nat} {pp dd : Nat} (hS : h.1 = fx_S0 a pp dd) (hp : h.1[pp]? = some (hp_a, .inl (10, [some (pp + 1), none, none, none]))) (hx : h.1[(pp + 1)]? = some (hx_a, .inr (0, 960))) (hd : h.1[dd]? = some (hd_a, .inl (10, [some (dd + 1), none, none, none]))) (hy : h.1[(dd + 1)]? = some (hy_a, .inr (0, 960)))
    (H : zR x2 ∧ zR (h.2.1 11 7) ∧ (((h.2.1 11 7) ≤ x2 → Q (some (.int (zI 1))) h) ∧ (¬ ((h.2.1 11 7) ≤ x2) → fx_Mt l M_TG_valueOf (0, 0) [.ref 11, .int (zI 273), .int (zI x2)] h (fun v h4 => ∃ r6 : Int, v = some (.long (zL r6)) ∧ h4.1 = h.1 ∧ fx_Mt l M_TG_valueOf (0, 0) [.ref 11, .int (zI 279), .int (zI x2)] h4 (fun v h7 => ∃ r9 : Int, v = some (.long (zL r9)) ∧ h7.1 = h4.1 ∧ fx_Mt l M_BR_open (0, 0) [.ref 3, .int (zI r6), .int (zI r9)] h7 (fun v h10 => v = none ∧ h10.1 = h7.1 ∧ zR (h10.2.1 11 4) ∧ zR ((x2 + 1) * (h10.2.1 11 6)) ∧ fx_Mt l M_PL_unpack (0, 0) [.ref 13, .ref dd, .int (zI (x2 * (h10.2.1 11 6))), .int (zI (if ((x2 + 1) * (h10.2.1 11 6)) < (h10.2.1 11 4) then (x2 + 1) * (h10.2.1 11 6) else h10.2.1 11 4))] h10 (fun v h14 => ∃ r16 : Int, v = some (.int (zI r16)) ∧ h14.1 = h10.1 ∧ zR r16 ∧ ((¬ r16 = 0 → (fx_V l M_FP_unpackStrips (0, 0) Q 0 0 42 [some (.ref 0), some (.ref 13), some (.int (zI (x2 + 1)))] [] h14)) ∧ (r16 = 0 → Q (some (.int (zI 0))) h14))))))))) :
    fx_V l M_FP_unpackStrips (0, 0) Q 0 0 42 [some (.ref 0), some (.ref 13), some (.int (zI x2))] [] h := by
  refine fx_iload_n (i := 2) d_FP_unpackStrips_42 rfl rfl ?_
  refine fx_aload_n (i := 0) d_FP_unpackStrips_43 rfl rfl ?_
  refine fx_getR (q := 11) d_FP_unpackStrips_44 lk_FP_33 (at_0 (h := _) hS) rfl rfl ?_
  refine fx_getI d_FP_unpackStrips_47 lk_FP_185 (at_11 (h := _) hS) rfl ?_
  obtain ⟨hz1, H⟩ := H
  obtain ⟨hz2, H⟩ := H
  refine fx_icmp_ge (t := 135) (n := 53) d_FP_unpackStrips_50 hz1 hz2 (fun z3 => ?_) (fun z3 => ?_)
  · replace H := H.1 z3
    refine fx_iconst d_FP_unpackStrips_135 ?_
    exact fx_end (some (.int (zI 1))) ⟨⟨_, rfl, rfl⟩, d_FP_unpackStrips_136⟩ (Nat.le_refl _) (Nat.le_refl _) rfl H
  · replace H := H.2 z3
    refine fx_aload_n (i := 0) d_FP_unpackStrips_53 rfl rfl ?_
    refine fx_getR (q := 3) d_FP_unpackStrips_54 lk_FP_26 (at_0 (h := _) hS) rfl rfl ?_
    refine fx_aload_n (i := 0) d_FP_unpackStrips_57 rfl rfl ?_
    refine fx_getR (q := 11) d_FP_unpackStrips_58 lk_FP_33 (at_0 (h := _) hS) rfl rfl ?_
    refine fx_sipush (v := 273) d_FP_unpackStrips_61 rfl ?_
    refine fx_iload_n (i := 2) d_FP_unpackStrips_64 rfl rfl ?_
    refine fx_callV (M' := M_TG_valueOf) (B' := (0, 0)) (vs := [.int (zI 273), .int (zI x2)]) (rest := [.ref 3]) (c1 := 0) (s1 := 0) (n := 68) d_FP_unpackStrips_65 ca_FP_unpackStrips_242 (at_11 (h := _) hS) rfl rfl rfl ⟨by decide, by decide⟩ (Nat.le_of_ble_eq_true rfl) (Or.inl rfl) (fx_Mt.mono H fun v h4 hv => ?_)
    obtain ⟨r6, rfl, e5, H⟩ := hv
    have hS4 := e5.trans hS
    have hp4 : h4.1[pp]? = some (hp_a, .inl (10, [some (pp + 1), none, none, none])) := by rw [e5]; exact hp
    have hx4 : h4.1[(pp + 1)]? = some (hx_a, .inr (0, 960)) := by rw [e5]; exact hx
    have hd4 : h4.1[dd]? = some (hd_a, .inl (10, [some (dd + 1), none, none, none])) := by rw [e5]; exact hd
    have hy4 : h4.1[(dd + 1)]? = some (hy_a, .inr (0, 960)) := by rw [e5]; exact hy
    show fx_V l M_FP_unpackStrips (0, 0) Q 0 0 68 [some (.ref 0), some (.ref 13), some (.int (zI x2))] [.long (zL r6), .ref 3] h4
    refine fx_l2i d_FP_unpackStrips_68 ?_
    refine fx_aload_n (i := 0) d_FP_unpackStrips_69 rfl rfl ?_
    refine fx_getR (q := 11) d_FP_unpackStrips_70 lk_FP_33 (at_0 (h := _) hS4) rfl rfl ?_
    refine fx_sipush (v := 279) d_FP_unpackStrips_73 rfl ?_
    refine fx_iload_n (i := 2) d_FP_unpackStrips_76 rfl rfl ?_
    refine fx_callV (M' := M_TG_valueOf) (B' := (0, 0)) (vs := [.int (zI 279), .int (zI x2)]) (rest := [.int (zI r6), .ref 3]) (c1 := 0) (s1 := 0) (n := 80) d_FP_unpackStrips_77 ca_FP_unpackStrips_242 (at_11 (h := _) hS4) rfl rfl rfl ⟨by decide, by decide⟩ (Nat.le_of_ble_eq_true rfl) (Or.inl rfl) (fx_Mt.mono H fun v h7 hv => ?_)
    obtain ⟨r9, rfl, e8, H⟩ := hv
    have hS7 := e8.trans hS4
    have hp7 : h7.1[pp]? = some (hp_a, .inl (10, [some (pp + 1), none, none, none])) := by rw [e8]; exact hp4
    have hx7 : h7.1[(pp + 1)]? = some (hx_a, .inr (0, 960)) := by rw [e8]; exact hx4
    have hd7 : h7.1[dd]? = some (hd_a, .inl (10, [some (dd + 1), none, none, none])) := by rw [e8]; exact hd4
    have hy7 : h7.1[(dd + 1)]? = some (hy_a, .inr (0, 960)) := by rw [e8]; exact hy4
    show fx_V l M_FP_unpackStrips (0, 0) Q 0 0 80 [some (.ref 0), some (.ref 13), some (.int (zI x2))] [.long (zL r9), .int (zI r6), .ref 3] h7
    refine fx_l2i d_FP_unpackStrips_80 ?_
    refine fx_callV (M' := M_BR_open) (B' := (0, 0)) (vs := [.int (zI r6), .int (zI r9)]) (rest := []) (c1 := 0) (s1 := 0) (n := 84) d_FP_unpackStrips_81 ca_FP_unpackStrips_246 (at_3 (h := _) hS7) rfl rfl rfl ⟨by decide, by decide⟩ (Nat.le_of_ble_eq_true rfl) (Or.inl rfl) (fx_Mt.mono H fun v h10 hv => ?_)
    obtain ⟨rfl, e11, H⟩ := hv
    have hS10 := e11.trans hS7
    have hp10 : h10.1[pp]? = some (hp_a, .inl (10, [some (pp + 1), none, none, none])) := by rw [e11]; exact hp7
    have hx10 : h10.1[(pp + 1)]? = some (hx_a, .inr (0, 960)) := by rw [e11]; exact hx7
    have hd10 : h10.1[dd]? = some (hd_a, .inl (10, [some (dd + 1), none, none, none])) := by rw [e11]; exact hd7
    have hy10 : h10.1[(dd + 1)]? = some (hy_a, .inr (0, 960)) := by rw [e11]; exact hy7
    show fx_V l M_FP_unpackStrips (0, 0) Q 0 0 84 [some (.ref 0), some (.ref 13), some (.int (zI x2))] [] h10
    refine fx_aload_n (i := 1) d_FP_unpackStrips_84 rfl rfl ?_
    refine fx_aload_n (i := 0) d_FP_unpackStrips_85 rfl rfl ?_
    refine fx_getR (q := dd) d_FP_unpackStrips_86 lk_FP_81 (at_0 (h := _) hS10) rfl rfl ?_
    refine fx_iload_n (i := 2) d_FP_unpackStrips_89 rfl rfl ?_
    refine fx_aload_n (i := 0) d_FP_unpackStrips_90 rfl rfl ?_
    refine fx_getR (q := 11) d_FP_unpackStrips_91 lk_FP_33 (at_0 (h := _) hS10) rfl rfl ?_
    refine fx_getI d_FP_unpackStrips_94 lk_FP_182 (at_11 (h := _) hS10) rfl ?_
    refine fx_imul d_FP_unpackStrips_97 ?_
    refine fx_aload_n (i := 0) d_FP_unpackStrips_98 rfl rfl ?_
    refine fx_getR (q := 11) d_FP_unpackStrips_99 lk_FP_33 (at_0 (h := _) hS10) rfl rfl ?_
    refine fx_getI d_FP_unpackStrips_102 lk_FP_241 (at_11 (h := _) hS10) rfl ?_
    refine fx_iload_n (i := 2) d_FP_unpackStrips_105 rfl rfl ?_
    refine fx_iconst d_FP_unpackStrips_106 ?_
    refine fx_iadd d_FP_unpackStrips_107 ?_
    refine fx_aload_n (i := 0) d_FP_unpackStrips_108 rfl rfl ?_
    refine fx_getR (q := 11) d_FP_unpackStrips_109 lk_FP_33 (at_0 (h := _) hS10) rfl rfl ?_
    refine fx_getI d_FP_unpackStrips_112 lk_FP_182 (at_11 (h := _) hS10) rfl ?_
    refine fx_imul d_FP_unpackStrips_115 ?_
    obtain ⟨hz12, H⟩ := H
    obtain ⟨hz13, H⟩ := H
    refine fx_min d_FP_unpackStrips_116 mm_FP_228 mw_min_s mw_i mw_min_c ⟨by decide, by decide⟩ (Nat.le_of_ble_eq_true rfl) ⟨Nat.le_refl _, Nat.le_refl _⟩ hz12 hz13 ?_
    refine fx_callF (M' := M_PL_unpack) (B' := (0, 0)) (vs := [.ref dd, .int (zI (x2 * (h10.2.1 11 6))), .int (zI (if ((x2 + 1) * (h10.2.1 11 6)) < (h10.2.1 11 4) then (x2 + 1) * (h10.2.1 11 6) else h10.2.1 11 4))]) (rest := []) (c1 := 0) (s1 := 0) (n := 124) d_FP_unpackStrips_119 cf_FP_unpackStrips_PL_unpack (at_13 (h := _) hS10) rfl rfl rfl ⟨by decide, by decide⟩ (Nat.le_of_ble_eq_true rfl) (Or.inl rfl) (fx_Mt.mono H fun v h14 hv => ?_)
    obtain ⟨r16, rfl, e15, H⟩ := hv
    have hS14 := e15.trans hS10
    have hp14 : h14.1[pp]? = some (hp_a, .inl (10, [some (pp + 1), none, none, none])) := by rw [e15]; exact hp10
    have hx14 : h14.1[(pp + 1)]? = some (hx_a, .inr (0, 960)) := by rw [e15]; exact hx10
    have hd14 : h14.1[dd]? = some (hd_a, .inl (10, [some (dd + 1), none, none, none])) := by rw [e15]; exact hd10
    have hy14 : h14.1[(dd + 1)]? = some (hy_a, .inr (0, 960)) := by rw [e15]; exact hy10
    show fx_V l M_FP_unpackStrips (0, 0) Q 0 0 124 [some (.ref 0), some (.ref 13), some (.int (zI x2))] [.int (zI r16)] h14
    obtain ⟨hz17, H⟩ := H
    refine fx_if_ne (t := 129) (n := 127) d_FP_unpackStrips_124 hz17 (fun z18 => ?_) (fun z18 => ?_)
    · replace H := H.1 z18
      refine fx_iinc (v := x2 + 1) (ls2 := [some (.ref 0), some (.ref 13), some (.int (zI (x2 + 1)))]) d_FP_unpackStrips_129 rfl rfl (by decide) rfl ?_
      refine fx_goto (n := 42) d_FP_unpackStrips_132 ?_
      exact H
    · replace H := H.2 z18
      refine fx_iconst d_FP_unpackStrips_127 ?_
      exact fx_end (some (.int (zI 0))) ⟨⟨_, rfl, rfl⟩, d_FP_unpackStrips_128⟩ (Nat.le_refl _) (Nat.le_refl _) rfl H

set_option maxRecDepth 100000 in
set_option maxHeartbeats 4000000 in
theorem w_FP_unpackStrips_42_14 {l : Launch} {Q : Option Value → fx_H → Prop} {h : fx_H}  {x2 : Int} {hp_a : Nat} {hx_a : Nat} {hd_a : Nat} {hy_a : Nat} {a : Nat → Nat} {pp dd : Nat} (hS : h.1 = fx_S0 a pp dd) (hp : h.1[pp]? = some (hp_a, .inl (10, [some (pp + 1), none, none, none]))) (hx : h.1[(pp + 1)]? = some (hx_a, .inr (0, 960))) (hd : h.1[dd]? = some (hd_a, .inl (10, [some (dd + 1), none, none, none]))) (hy : h.1[(dd + 1)]? = some (hy_a, .inr (0, 960)))
    (H : zR x2 ∧ zR (h.2.1 11 7) ∧ (((h.2.1 11 7) ≤ x2 → Q (some (.int (zI 1))) h) ∧ (¬ ((h.2.1 11 7) ≤ x2) → fx_Mt l M_TG_valueOf (0, 0) [.ref 11, .int (zI 273), .int (zI x2)] h (fun v h4 => ∃ r6 : Int, v = some (.long (zL r6)) ∧ h4.1 = h.1 ∧ fx_Mt l M_TG_valueOf (0, 0) [.ref 11, .int (zI 279), .int (zI x2)] h4 (fun v h7 => ∃ r9 : Int, v = some (.long (zL r9)) ∧ h7.1 = h4.1 ∧ fx_Mt l M_BR_open (0, 0) [.ref 3, .int (zI r6), .int (zI r9)] h7 (fun v h10 => v = none ∧ h10.1 = h7.1 ∧ zR (h10.2.1 11 4) ∧ zR ((x2 + 1) * (h10.2.1 11 6)) ∧ fx_Mt l M_RU_unpack (0, 0) [.ref 14, .ref dd, .int (zI (x2 * (h10.2.1 11 6))), .int (zI (if ((x2 + 1) * (h10.2.1 11 6)) < (h10.2.1 11 4) then (x2 + 1) * (h10.2.1 11 6) else h10.2.1 11 4))] h10 (fun v h14 => ∃ r16 : Int, v = some (.int (zI r16)) ∧ h14.1 = h10.1 ∧ zR r16 ∧ ((¬ r16 = 0 → (fx_V l M_FP_unpackStrips (0, 0) Q 0 0 42 [some (.ref 0), some (.ref 14), some (.int (zI (x2 + 1)))] [] h14)) ∧ (r16 = 0 → Q (some (.int (zI 0))) h14))))))))) :
    fx_V l M_FP_unpackStrips (0, 0) Q 0 0 42 [some (.ref 0), some (.ref 14), some (.int (zI x2))] [] h := by
  refine fx_iload_n (i := 2) d_FP_unpackStrips_42 rfl rfl ?_
  refine fx_aload_n (i := 0) d_FP_unpackStrips_43 rfl rfl ?_
  refine fx_getR (q := 11) d_FP_unpackStrips_44 lk_FP_33 (at_0 (h := _) hS) rfl rfl ?_
  refine fx_getI d_FP_unpackStrips_47 lk_FP_185 (at_11 (h := _) hS) rfl ?_
  obtain ⟨hz1, H⟩ := H
  obtain ⟨hz2, H⟩ := H
  refine fx_icmp_ge (t := 135) (n := 53) d_FP_unpackStrips_50 hz1 hz2 (fun z3 => ?_) (fun z3 => ?_)
  · replace H := H.1 z3
    refine fx_iconst d_FP_unpackStrips_135 ?_
    exact fx_end (some (.int (zI 1))) ⟨⟨_, rfl, rfl⟩, d_FP_unpackStrips_136⟩ (Nat.le_refl _) (Nat.le_refl _) rfl H
  · replace H := H.2 z3
    refine fx_aload_n (i := 0) d_FP_unpackStrips_53 rfl rfl ?_
    refine fx_getR (q := 3) d_FP_unpackStrips_54 lk_FP_26 (at_0 (h := _) hS) rfl rfl ?_
    refine fx_aload_n (i := 0) d_FP_unpackStrips_57 rfl rfl ?_
    refine fx_getR (q := 11) d_FP_unpackStrips_58 lk_FP_33 (at_0 (h := _) hS) rfl rfl ?_
    refine fx_sipush (v := 273) d_FP_unpackStrips_61 rfl ?_
    refine fx_iload_n (i := 2) d_FP_unpackStrips_64 rfl rfl ?_
    refine fx_callV (M' := M_TG_valueOf) (B' := (0, 0)) (vs := [.int (zI 273), .int (zI x2)]) (rest := [.ref 3]) (c1 := 0) (s1 := 0) (n := 68) d_FP_unpackStrips_65 ca_FP_unpackStrips_242 (at_11 (h := _) hS) rfl rfl rfl ⟨by decide, by decide⟩ (Nat.le_of_ble_eq_true rfl) (Or.inl rfl) (fx_Mt.mono H fun v h4 hv => ?_)
    obtain ⟨r6, rfl, e5, H⟩ := hv
    have hS4 := e5.trans hS
    have hp4 : h4.1[pp]? = some (hp_a, .inl (10, [some (pp + 1), none, none, none])) := by rw [e5]; exact hp
    have hx4 : h4.1[(pp + 1)]? = some (hx_a, .inr (0, 960)) := by rw [e5]; exact hx
    have hd4 : h4.1[dd]? = some (hd_a, .inl (10, [some (dd + 1), none, none, none])) := by rw [e5]; exact hd
    have hy4 : h4.1[(dd + 1)]? = some (hy_a, .inr (0, 960)) := by rw [e5]; exact hy
    show fx_V l M_FP_unpackStrips (0, 0) Q 0 0 68 [some (.ref 0), some (.ref 14), some (.int (zI x2))] [.long (zL r6), .ref 3] h4
    refine fx_l2i d_FP_unpackStrips_68 ?_
    refine fx_aload_n (i := 0) d_FP_unpackStrips_69 rfl rfl ?_
    refine fx_getR (q := 11) d_FP_unpackStrips_70 lk_FP_33 (at_0 (h := _) hS4) rfl rfl ?_
    refine fx_sipush (v := 279) d_FP_unpackStrips_73 rfl ?_
    refine fx_iload_n (i := 2) d_FP_unpackStrips_76 rfl rfl ?_
    refine fx_callV (M' := M_TG_valueOf) (B' := (0, 0)) (vs := [.int (zI 279), .int (zI x2)]) (rest := [.int (zI r6), .ref 3]) (c1 := 0) (s1 := 0) (n := 80) d_FP_unpackStrips_77 ca_FP_unpackStrips_242 (at_11 (h := _) hS4) rfl rfl rfl ⟨by decide, by decide⟩ (Nat.le_of_ble_eq_true rfl) (Or.inl rfl) (fx_Mt.mono H fun v h7 hv => ?_)
    obtain ⟨r9, rfl, e8, H⟩ := hv
    have hS7 := e8.trans hS4
    have hp7 : h7.1[pp]? = some (hp_a, .inl (10, [some (pp + 1), none, none, none])) := by rw [e8]; exact hp4
    have hx7 : h7.1[(pp + 1)]? = some (hx_a, .inr (0, 960)) := by rw [e8]; exact hx4
    have hd7 : h7.1[dd]? = some (hd_a, .inl (10, [some (dd + 1), none, none, none])) := by rw [e8]; exact hd4
    have hy7 : h7.1[(dd + 1)]? = some (hy_a, .inr (0, 960)) := by rw [e8]; exact hy4
    show fx_V l M_FP_unpackStrips (0, 0) Q 0 0 80 [some (.ref 0), some (.ref 14), some (.int (zI x2))] [.long (zL r9), .int (zI r6), .ref 3] h7
    refine fx_l2i d_FP_unpackStrips_80 ?_
    refine fx_callV (M' := M_BR_open) (B' := (0, 0)) (vs := [.int (zI r6), .int (zI r9)]) (rest := []) (c1 := 0) (s1 := 0) (n := 84) d_FP_unpackStrips_81 ca_FP_unpackStrips_246 (at_3 (h := _) hS7) rfl rfl rfl ⟨by decide, by decide⟩ (Nat.le_of_ble_eq_true rfl) (Or.inl rfl) (fx_Mt.mono H fun v h10 hv => ?_)
    obtain ⟨rfl, e11, H⟩ := hv
    have hS10 := e11.trans hS7
    have hp10 : h10.1[pp]? = some (hp_a, .inl (10, [some (pp + 1), none, none, none])) := by rw [e11]; exact hp7
    have hx10 : h10.1[(pp + 1)]? = some (hx_a, .inr (0, 960)) := by rw [e11]; exact hx7
    have hd10 : h10.1[dd]? = some (hd_a, .inl (10, [some (dd + 1), none, none, none])) := by rw [e11]; exact hd7
    have hy10 : h10.1[(dd + 1)]? = some (hy_a, .inr (0, 960)) := by rw [e11]; exact hy7
    show fx_V l M_FP_unpackStrips (0, 0) Q 0 0 84 [some (.ref 0), some (.ref 14), some (.int (zI x2))] [] h10
    refine fx_aload_n (i := 1) d_FP_unpackStrips_84 rfl rfl ?_
    refine fx_aload_n (i := 0) d_FP_unpackStrips_85 rfl rfl ?_
    refine fx_getR (q := dd) d_FP_unpackStrips_86 lk_FP_81 (at_0 (h := _) hS10) rfl rfl ?_
    refine fx_iload_n (i := 2) d_FP_unpackStrips_89 rfl rfl ?_
    refine fx_aload_n (i := 0) d_FP_unpackStrips_90 rfl rfl ?_
    refine fx_getR (q := 11) d_FP_unpackStrips_91 lk_FP_33 (at_0 (h := _) hS10) rfl rfl ?_
    refine fx_getI d_FP_unpackStrips_94 lk_FP_182 (at_11 (h := _) hS10) rfl ?_
    refine fx_imul d_FP_unpackStrips_97 ?_
    refine fx_aload_n (i := 0) d_FP_unpackStrips_98 rfl rfl ?_
    refine fx_getR (q := 11) d_FP_unpackStrips_99 lk_FP_33 (at_0 (h := _) hS10) rfl rfl ?_
    refine fx_getI d_FP_unpackStrips_102 lk_FP_241 (at_11 (h := _) hS10) rfl ?_
    refine fx_iload_n (i := 2) d_FP_unpackStrips_105 rfl rfl ?_
    refine fx_iconst d_FP_unpackStrips_106 ?_
    refine fx_iadd d_FP_unpackStrips_107 ?_
    refine fx_aload_n (i := 0) d_FP_unpackStrips_108 rfl rfl ?_
    refine fx_getR (q := 11) d_FP_unpackStrips_109 lk_FP_33 (at_0 (h := _) hS10) rfl rfl ?_
    refine fx_getI d_FP_unpackStrips_112 lk_FP_182 (at_11 (h := _) hS10) rfl ?_
    refine fx_imul d_FP_unpackStrips_115 ?_
    obtain ⟨hz12, H⟩ := H
    obtain ⟨hz13, H⟩ := H
    refine fx_min d_FP_unpackStrips_116 mm_FP_228 mw_min_s mw_i mw_min_c ⟨by decide, by decide⟩ (Nat.le_of_ble_eq_true rfl) ⟨Nat.le_refl _, Nat.le_refl _⟩ hz12 hz13 ?_
    refine fx_callF (M' := M_RU_unpack) (B' := (0, 0)) (vs := [.ref dd, .int (zI (x2 * (h10.2.1 11 6))), .int (zI (if ((x2 + 1) * (h10.2.1 11 6)) < (h10.2.1 11 4) then (x2 + 1) * (h10.2.1 11 6) else h10.2.1 11 4))]) (rest := []) (c1 := 0) (s1 := 0) (n := 124) d_FP_unpackStrips_119 cf_FP_unpackStrips_RU_unpack (at_14 (h := _) hS10) rfl rfl rfl ⟨by decide, by decide⟩ (Nat.le_of_ble_eq_true rfl) (Or.inl rfl) (fx_Mt.mono H fun v h14 hv => ?_)
    obtain ⟨r16, rfl, e15, H⟩ := hv
    have hS14 := e15.trans hS10
    have hp14 : h14.1[pp]? = some (hp_a, .inl (10, [some (pp + 1), none, none, none])) := by rw [e15]; exact hp10
    have hx14 : h14.1[(pp + 1)]? = some (hx_a, .inr (0, 960)) := by rw [e15]; exact hx10
    have hd14 : h14.1[dd]? = some (hd_a, .inl (10, [some (dd + 1), none, none, none])) := by rw [e15]; exact hd10
    have hy14 : h14.1[(dd + 1)]? = some (hy_a, .inr (0, 960)) := by rw [e15]; exact hy10
    show fx_V l M_FP_unpackStrips (0, 0) Q 0 0 124 [some (.ref 0), some (.ref 14), some (.int (zI x2))] [.int (zI r16)] h14
    obtain ⟨hz17, H⟩ := H
    refine fx_if_ne (t := 129) (n := 127) d_FP_unpackStrips_124 hz17 (fun z18 => ?_) (fun z18 => ?_)
    · replace H := H.1 z18
      refine fx_iinc (v := x2 + 1) (ls2 := [some (.ref 0), some (.ref 14), some (.int (zI (x2 + 1)))]) d_FP_unpackStrips_129 rfl rfl (by decide) rfl ?_
      refine fx_goto (n := 42) d_FP_unpackStrips_132 ?_
      exact H
    · replace H := H.2 z18
      refine fx_iconst d_FP_unpackStrips_127 ?_
      exact fx_end (some (.int (zI 0))) ⟨⟨_, rfl, rfl⟩, d_FP_unpackStrips_128⟩ (Nat.le_refl _) (Nat.le_refl _) rfl H

set_option maxRecDepth 100000 in
set_option maxHeartbeats 4000000 in
theorem w_FP_unpackStrips_42_16 {l : Launch} {Q : Option Value → fx_H → Prop} {h : fx_H}  {x2 : Int} {hp_a : Nat} {hx_a : Nat} {hd_a : Nat} {hy_a : Nat} {a : Nat → Nat} {pp dd : Nat} (hS : h.1 = fx_S0 a pp dd) (hp : h.1[pp]? = some (hp_a, .inl (10, [some (pp + 1), none, none, none]))) (hx : h.1[(pp + 1)]? = some (hx_a, .inr (0, 960))) (hd : h.1[dd]? = some (hd_a, .inl (10, [some (dd + 1), none, none, none]))) (hy : h.1[(dd + 1)]? = some (hy_a, .inr (0, 960)))
    (H : zR x2 ∧ zR (h.2.1 11 7) ∧ (((h.2.1 11 7) ≤ x2 → Q (some (.int (zI 1))) h) ∧ (¬ ((h.2.1 11 7) ≤ x2) → fx_Mt l M_TG_valueOf (0, 0) [.ref 11, .int (zI 273), .int (zI x2)] h (fun v h4 => ∃ r6 : Int, v = some (.long (zL r6)) ∧ h4.1 = h.1 ∧ fx_Mt l M_TG_valueOf (0, 0) [.ref 11, .int (zI 279), .int (zI x2)] h4 (fun v h7 => ∃ r9 : Int, v = some (.long (zL r9)) ∧ h7.1 = h4.1 ∧ fx_Mt l M_BR_open (0, 0) [.ref 3, .int (zI r6), .int (zI r9)] h7 (fun v h10 => v = none ∧ h10.1 = h7.1 ∧ zR (h10.2.1 11 4) ∧ zR ((x2 + 1) * (h10.2.1 11 6)) ∧ fx_Mt l M_TA_unpack (0, 0) [.ref 16, .ref dd, .int (zI (x2 * (h10.2.1 11 6))), .int (zI (if ((x2 + 1) * (h10.2.1 11 6)) < (h10.2.1 11 4) then (x2 + 1) * (h10.2.1 11 6) else h10.2.1 11 4))] h10 (fun v h14 => ∃ r16 : Int, v = some (.int (zI r16)) ∧ h14.1 = h10.1 ∧ zR r16 ∧ ((¬ r16 = 0 → (fx_V l M_FP_unpackStrips (0, 0) Q 0 0 42 [some (.ref 0), some (.ref 16), some (.int (zI (x2 + 1)))] [] h14)) ∧ (r16 = 0 → Q (some (.int (zI 0))) h14))))))))) :
    fx_V l M_FP_unpackStrips (0, 0) Q 0 0 42 [some (.ref 0), some (.ref 16), some (.int (zI x2))] [] h := by
  refine fx_iload_n (i := 2) d_FP_unpackStrips_42 rfl rfl ?_
  refine fx_aload_n (i := 0) d_FP_unpackStrips_43 rfl rfl ?_
  refine fx_getR (q := 11) d_FP_unpackStrips_44 lk_FP_33 (at_0 (h := _) hS) rfl rfl ?_
  refine fx_getI d_FP_unpackStrips_47 lk_FP_185 (at_11 (h := _) hS) rfl ?_
  obtain ⟨hz1, H⟩ := H
  obtain ⟨hz2, H⟩ := H
  refine fx_icmp_ge (t := 135) (n := 53) d_FP_unpackStrips_50 hz1 hz2 (fun z3 => ?_) (fun z3 => ?_)
  · replace H := H.1 z3
    refine fx_iconst d_FP_unpackStrips_135 ?_
    exact fx_end (some (.int (zI 1))) ⟨⟨_, rfl, rfl⟩, d_FP_unpackStrips_136⟩ (Nat.le_refl _) (Nat.le_refl _) rfl H
  · replace H := H.2 z3
    refine fx_aload_n (i := 0) d_FP_unpackStrips_53 rfl rfl ?_
    refine fx_getR (q := 3) d_FP_unpackStrips_54 lk_FP_26 (at_0 (h := _) hS) rfl rfl ?_
    refine fx_aload_n (i := 0) d_FP_unpackStrips_57 rfl rfl ?_
    refine fx_getR (q := 11) d_FP_unpackStrips_58 lk_FP_33 (at_0 (h := _) hS) rfl rfl ?_
    refine fx_sipush (v := 273) d_FP_unpackStrips_61 rfl ?_
    refine fx_iload_n (i := 2) d_FP_unpackStrips_64 rfl rfl ?_
    refine fx_callV (M' := M_TG_valueOf) (B' := (0, 0)) (vs := [.int (zI 273), .int (zI x2)]) (rest := [.ref 3]) (c1 := 0) (s1 := 0) (n := 68) d_FP_unpackStrips_65 ca_FP_unpackStrips_242 (at_11 (h := _) hS) rfl rfl rfl ⟨by decide, by decide⟩ (Nat.le_of_ble_eq_true rfl) (Or.inl rfl) (fx_Mt.mono H fun v h4 hv => ?_)
    obtain ⟨r6, rfl, e5, H⟩ := hv
    have hS4 := e5.trans hS
    have hp4 : h4.1[pp]? = some (hp_a, .inl (10, [some (pp + 1), none, none, none])) := by rw [e5]; exact hp
    have hx4 : h4.1[(pp + 1)]? = some (hx_a, .inr (0, 960)) := by rw [e5]; exact hx
    have hd4 : h4.1[dd]? = some (hd_a, .inl (10, [some (dd + 1), none, none, none])) := by rw [e5]; exact hd
    have hy4 : h4.1[(dd + 1)]? = some (hy_a, .inr (0, 960)) := by rw [e5]; exact hy
    show fx_V l M_FP_unpackStrips (0, 0) Q 0 0 68 [some (.ref 0), some (.ref 16), some (.int (zI x2))] [.long (zL r6), .ref 3] h4
    refine fx_l2i d_FP_unpackStrips_68 ?_
    refine fx_aload_n (i := 0) d_FP_unpackStrips_69 rfl rfl ?_
    refine fx_getR (q := 11) d_FP_unpackStrips_70 lk_FP_33 (at_0 (h := _) hS4) rfl rfl ?_
    refine fx_sipush (v := 279) d_FP_unpackStrips_73 rfl ?_
    refine fx_iload_n (i := 2) d_FP_unpackStrips_76 rfl rfl ?_
    refine fx_callV (M' := M_TG_valueOf) (B' := (0, 0)) (vs := [.int (zI 279), .int (zI x2)]) (rest := [.int (zI r6), .ref 3]) (c1 := 0) (s1 := 0) (n := 80) d_FP_unpackStrips_77 ca_FP_unpackStrips_242 (at_11 (h := _) hS4) rfl rfl rfl ⟨by decide, by decide⟩ (Nat.le_of_ble_eq_true rfl) (Or.inl rfl) (fx_Mt.mono H fun v h7 hv => ?_)
    obtain ⟨r9, rfl, e8, H⟩ := hv
    have hS7 := e8.trans hS4
    have hp7 : h7.1[pp]? = some (hp_a, .inl (10, [some (pp + 1), none, none, none])) := by rw [e8]; exact hp4
    have hx7 : h7.1[(pp + 1)]? = some (hx_a, .inr (0, 960)) := by rw [e8]; exact hx4
    have hd7 : h7.1[dd]? = some (hd_a, .inl (10, [some (dd + 1), none, none, none])) := by rw [e8]; exact hd4
    have hy7 : h7.1[(dd + 1)]? = some (hy_a, .inr (0, 960)) := by rw [e8]; exact hy4
    show fx_V l M_FP_unpackStrips (0, 0) Q 0 0 80 [some (.ref 0), some (.ref 16), some (.int (zI x2))] [.long (zL r9), .int (zI r6), .ref 3] h7
    refine fx_l2i d_FP_unpackStrips_80 ?_
    refine fx_callV (M' := M_BR_open) (B' := (0, 0)) (vs := [.int (zI r6), .int (zI r9)]) (rest := []) (c1 := 0) (s1 := 0) (n := 84) d_FP_unpackStrips_81 ca_FP_unpackStrips_246 (at_3 (h := _) hS7) rfl rfl rfl ⟨by decide, by decide⟩ (Nat.le_of_ble_eq_true rfl) (Or.inl rfl) (fx_Mt.mono H fun v h10 hv => ?_)
    obtain ⟨rfl, e11, H⟩ := hv
    have hS10 := e11.trans hS7
    have hp10 : h10.1[pp]? = some (hp_a, .inl (10, [some (pp + 1), none, none, none])) := by rw [e11]; exact hp7
    have hx10 : h10.1[(pp + 1)]? = some (hx_a, .inr (0, 960)) := by rw [e11]; exact hx7
    have hd10 : h10.1[dd]? = some (hd_a, .inl (10, [some (dd + 1), none, none, none])) := by rw [e11]; exact hd7
    have hy10 : h10.1[(dd + 1)]? = some (hy_a, .inr (0, 960)) := by rw [e11]; exact hy7
    show fx_V l M_FP_unpackStrips (0, 0) Q 0 0 84 [some (.ref 0), some (.ref 16), some (.int (zI x2))] [] h10
    refine fx_aload_n (i := 1) d_FP_unpackStrips_84 rfl rfl ?_
    refine fx_aload_n (i := 0) d_FP_unpackStrips_85 rfl rfl ?_
    refine fx_getR (q := dd) d_FP_unpackStrips_86 lk_FP_81 (at_0 (h := _) hS10) rfl rfl ?_
    refine fx_iload_n (i := 2) d_FP_unpackStrips_89 rfl rfl ?_
    refine fx_aload_n (i := 0) d_FP_unpackStrips_90 rfl rfl ?_
    refine fx_getR (q := 11) d_FP_unpackStrips_91 lk_FP_33 (at_0 (h := _) hS10) rfl rfl ?_
    refine fx_getI d_FP_unpackStrips_94 lk_FP_182 (at_11 (h := _) hS10) rfl ?_
    refine fx_imul d_FP_unpackStrips_97 ?_
    refine fx_aload_n (i := 0) d_FP_unpackStrips_98 rfl rfl ?_
    refine fx_getR (q := 11) d_FP_unpackStrips_99 lk_FP_33 (at_0 (h := _) hS10) rfl rfl ?_
    refine fx_getI d_FP_unpackStrips_102 lk_FP_241 (at_11 (h := _) hS10) rfl ?_
    refine fx_iload_n (i := 2) d_FP_unpackStrips_105 rfl rfl ?_
    refine fx_iconst d_FP_unpackStrips_106 ?_
    refine fx_iadd d_FP_unpackStrips_107 ?_
    refine fx_aload_n (i := 0) d_FP_unpackStrips_108 rfl rfl ?_
    refine fx_getR (q := 11) d_FP_unpackStrips_109 lk_FP_33 (at_0 (h := _) hS10) rfl rfl ?_
    refine fx_getI d_FP_unpackStrips_112 lk_FP_182 (at_11 (h := _) hS10) rfl ?_
    refine fx_imul d_FP_unpackStrips_115 ?_
    obtain ⟨hz12, H⟩ := H
    obtain ⟨hz13, H⟩ := H
    refine fx_min d_FP_unpackStrips_116 mm_FP_228 mw_min_s mw_i mw_min_c ⟨by decide, by decide⟩ (Nat.le_of_ble_eq_true rfl) ⟨Nat.le_refl _, Nat.le_refl _⟩ hz12 hz13 ?_
    refine fx_callF (M' := M_TA_unpack) (B' := (0, 0)) (vs := [.ref dd, .int (zI (x2 * (h10.2.1 11 6))), .int (zI (if ((x2 + 1) * (h10.2.1 11 6)) < (h10.2.1 11 4) then (x2 + 1) * (h10.2.1 11 6) else h10.2.1 11 4))]) (rest := []) (c1 := 0) (s1 := 0) (n := 124) d_FP_unpackStrips_119 cf_FP_unpackStrips_TA_unpack (at_16 (h := _) hS10) rfl rfl rfl ⟨by decide, by decide⟩ (Nat.le_of_ble_eq_true rfl) (Or.inl rfl) (fx_Mt.mono H fun v h14 hv => ?_)
    obtain ⟨r16, rfl, e15, H⟩ := hv
    have hS14 := e15.trans hS10
    have hp14 : h14.1[pp]? = some (hp_a, .inl (10, [some (pp + 1), none, none, none])) := by rw [e15]; exact hp10
    have hx14 : h14.1[(pp + 1)]? = some (hx_a, .inr (0, 960)) := by rw [e15]; exact hx10
    have hd14 : h14.1[dd]? = some (hd_a, .inl (10, [some (dd + 1), none, none, none])) := by rw [e15]; exact hd10
    have hy14 : h14.1[(dd + 1)]? = some (hy_a, .inr (0, 960)) := by rw [e15]; exact hy10
    show fx_V l M_FP_unpackStrips (0, 0) Q 0 0 124 [some (.ref 0), some (.ref 16), some (.int (zI x2))] [.int (zI r16)] h14
    obtain ⟨hz17, H⟩ := H
    refine fx_if_ne (t := 129) (n := 127) d_FP_unpackStrips_124 hz17 (fun z18 => ?_) (fun z18 => ?_)
    · replace H := H.1 z18
      refine fx_iinc (v := x2 + 1) (ls2 := [some (.ref 0), some (.ref 16), some (.int (zI (x2 + 1)))]) d_FP_unpackStrips_129 rfl rfl (by decide) rfl ?_
      refine fx_goto (n := 42) d_FP_unpackStrips_132 ?_
      exact H
    · replace H := H.2 z18
      refine fx_iconst d_FP_unpackStrips_127 ?_
      exact fx_end (some (.int (zI 0))) ⟨⟨_, rfl, rfl⟩, d_FP_unpackStrips_128⟩ (Nat.le_refl _) (Nat.le_refl _) rfl H

set_option maxRecDepth 100000 in
set_option maxHeartbeats 4000000 in
theorem w_FP_unpackStrips_42_23 {l : Launch} {Q : Option Value → fx_H → Prop} {h : fx_H}  {x2 : Int} {hp_a : Nat} {hx_a : Nat} {hd_a : Nat} {hy_a : Nat} {a : Nat → Nat} {pp dd : Nat} (hS : h.1 = fx_S0 a pp dd) (hp : h.1[pp]? = some (hp_a, .inl (10, [some (pp + 1), none, none, none]))) (hx : h.1[(pp + 1)]? = some (hx_a, .inr (0, 960))) (hd : h.1[dd]? = some (hd_a, .inl (10, [some (dd + 1), none, none, none]))) (hy : h.1[(dd + 1)]? = some (hy_a, .inr (0, 960)))
    (H : zR x2 ∧ zR (h.2.1 11 7) ∧ (((h.2.1 11 7) ≤ x2 → Q (some (.int (zI 1))) h) ∧ (¬ ((h.2.1 11 7) ≤ x2) → fx_Mt l M_TG_valueOf (0, 0) [.ref 11, .int (zI 273), .int (zI x2)] h (fun v h4 => ∃ r6 : Int, v = some (.long (zL r6)) ∧ h4.1 = h.1 ∧ fx_Mt l M_TG_valueOf (0, 0) [.ref 11, .int (zI 279), .int (zI x2)] h4 (fun v h7 => ∃ r9 : Int, v = some (.long (zL r9)) ∧ h7.1 = h4.1 ∧ fx_Mt l M_BR_open (0, 0) [.ref 3, .int (zI r6), .int (zI r9)] h7 (fun v h10 => v = none ∧ h10.1 = h7.1 ∧ zR (h10.2.1 11 4) ∧ zR ((x2 + 1) * (h10.2.1 11 6)) ∧ fx_Mt l M_FX_unpack (0, 0) [.ref 23, .ref dd, .int (zI (x2 * (h10.2.1 11 6))), .int (zI (if ((x2 + 1) * (h10.2.1 11 6)) < (h10.2.1 11 4) then (x2 + 1) * (h10.2.1 11 6) else h10.2.1 11 4))] h10 (fun v h14 => ∃ r16 : Int, v = some (.int (zI r16)) ∧ h14.1 = h10.1 ∧ zR r16 ∧ ((¬ r16 = 0 → (fx_V l M_FP_unpackStrips (0, 0) Q 0 0 42 [some (.ref 0), some (.ref 23), some (.int (zI (x2 + 1)))] [] h14)) ∧ (r16 = 0 → Q (some (.int (zI 0))) h14))))))))) :
    fx_V l M_FP_unpackStrips (0, 0) Q 0 0 42 [some (.ref 0), some (.ref 23), some (.int (zI x2))] [] h := by
  refine fx_iload_n (i := 2) d_FP_unpackStrips_42 rfl rfl ?_
  refine fx_aload_n (i := 0) d_FP_unpackStrips_43 rfl rfl ?_
  refine fx_getR (q := 11) d_FP_unpackStrips_44 lk_FP_33 (at_0 (h := _) hS) rfl rfl ?_
  refine fx_getI d_FP_unpackStrips_47 lk_FP_185 (at_11 (h := _) hS) rfl ?_
  obtain ⟨hz1, H⟩ := H
  obtain ⟨hz2, H⟩ := H
  refine fx_icmp_ge (t := 135) (n := 53) d_FP_unpackStrips_50 hz1 hz2 (fun z3 => ?_) (fun z3 => ?_)
  · replace H := H.1 z3
    refine fx_iconst d_FP_unpackStrips_135 ?_
    exact fx_end (some (.int (zI 1))) ⟨⟨_, rfl, rfl⟩, d_FP_unpackStrips_136⟩ (Nat.le_refl _) (Nat.le_refl _) rfl H
  · replace H := H.2 z3
    refine fx_aload_n (i := 0) d_FP_unpackStrips_53 rfl rfl ?_
    refine fx_getR (q := 3) d_FP_unpackStrips_54 lk_FP_26 (at_0 (h := _) hS) rfl rfl ?_
    refine fx_aload_n (i := 0) d_FP_unpackStrips_57 rfl rfl ?_
    refine fx_getR (q := 11) d_FP_unpackStrips_58 lk_FP_33 (at_0 (h := _) hS) rfl rfl ?_
    refine fx_sipush (v := 273) d_FP_unpackStrips_61 rfl ?_
    refine fx_iload_n (i := 2) d_FP_unpackStrips_64 rfl rfl ?_
    refine fx_callV (M' := M_TG_valueOf) (B' := (0, 0)) (vs := [.int (zI 273), .int (zI x2)]) (rest := [.ref 3]) (c1 := 0) (s1 := 0) (n := 68) d_FP_unpackStrips_65 ca_FP_unpackStrips_242 (at_11 (h := _) hS) rfl rfl rfl ⟨by decide, by decide⟩ (Nat.le_of_ble_eq_true rfl) (Or.inl rfl) (fx_Mt.mono H fun v h4 hv => ?_)
    obtain ⟨r6, rfl, e5, H⟩ := hv
    have hS4 := e5.trans hS
    have hp4 : h4.1[pp]? = some (hp_a, .inl (10, [some (pp + 1), none, none, none])) := by rw [e5]; exact hp
    have hx4 : h4.1[(pp + 1)]? = some (hx_a, .inr (0, 960)) := by rw [e5]; exact hx
    have hd4 : h4.1[dd]? = some (hd_a, .inl (10, [some (dd + 1), none, none, none])) := by rw [e5]; exact hd
    have hy4 : h4.1[(dd + 1)]? = some (hy_a, .inr (0, 960)) := by rw [e5]; exact hy
    show fx_V l M_FP_unpackStrips (0, 0) Q 0 0 68 [some (.ref 0), some (.ref 23), some (.int (zI x2))] [.long (zL r6), .ref 3] h4
    refine fx_l2i d_FP_unpackStrips_68 ?_
    refine fx_aload_n (i := 0) d_FP_unpackStrips_69 rfl rfl ?_
    refine fx_getR (q := 11) d_FP_unpackStrips_70 lk_FP_33 (at_0 (h := _) hS4) rfl rfl ?_
    refine fx_sipush (v := 279) d_FP_unpackStrips_73 rfl ?_
    refine fx_iload_n (i := 2) d_FP_unpackStrips_76 rfl rfl ?_
    refine fx_callV (M' := M_TG_valueOf) (B' := (0, 0)) (vs := [.int (zI 279), .int (zI x2)]) (rest := [.int (zI r6), .ref 3]) (c1 := 0) (s1 := 0) (n := 80) d_FP_unpackStrips_77 ca_FP_unpackStrips_242 (at_11 (h := _) hS4) rfl rfl rfl ⟨by decide, by decide⟩ (Nat.le_of_ble_eq_true rfl) (Or.inl rfl) (fx_Mt.mono H fun v h7 hv => ?_)
    obtain ⟨r9, rfl, e8, H⟩ := hv
    have hS7 := e8.trans hS4
    have hp7 : h7.1[pp]? = some (hp_a, .inl (10, [some (pp + 1), none, none, none])) := by rw [e8]; exact hp4
    have hx7 : h7.1[(pp + 1)]? = some (hx_a, .inr (0, 960)) := by rw [e8]; exact hx4
    have hd7 : h7.1[dd]? = some (hd_a, .inl (10, [some (dd + 1), none, none, none])) := by rw [e8]; exact hd4
    have hy7 : h7.1[(dd + 1)]? = some (hy_a, .inr (0, 960)) := by rw [e8]; exact hy4
    show fx_V l M_FP_unpackStrips (0, 0) Q 0 0 80 [some (.ref 0), some (.ref 23), some (.int (zI x2))] [.long (zL r9), .int (zI r6), .ref 3] h7
    refine fx_l2i d_FP_unpackStrips_80 ?_
    refine fx_callV (M' := M_BR_open) (B' := (0, 0)) (vs := [.int (zI r6), .int (zI r9)]) (rest := []) (c1 := 0) (s1 := 0) (n := 84) d_FP_unpackStrips_81 ca_FP_unpackStrips_246 (at_3 (h := _) hS7) rfl rfl rfl ⟨by decide, by decide⟩ (Nat.le_of_ble_eq_true rfl) (Or.inl rfl) (fx_Mt.mono H fun v h10 hv => ?_)
    obtain ⟨rfl, e11, H⟩ := hv
    have hS10 := e11.trans hS7
    have hp10 : h10.1[pp]? = some (hp_a, .inl (10, [some (pp + 1), none, none, none])) := by rw [e11]; exact hp7
    have hx10 : h10.1[(pp + 1)]? = some (hx_a, .inr (0, 960)) := by rw [e11]; exact hx7
    have hd10 : h10.1[dd]? = some (hd_a, .inl (10, [some (dd + 1), none, none, none])) := by rw [e11]; exact hd7
    have hy10 : h10.1[(dd + 1)]? = some (hy_a, .inr (0, 960)) := by rw [e11]; exact hy7
    show fx_V l M_FP_unpackStrips (0, 0) Q 0 0 84 [some (.ref 0), some (.ref 23), some (.int (zI x2))] [] h10
    refine fx_aload_n (i := 1) d_FP_unpackStrips_84 rfl rfl ?_
    refine fx_aload_n (i := 0) d_FP_unpackStrips_85 rfl rfl ?_
    refine fx_getR (q := dd) d_FP_unpackStrips_86 lk_FP_81 (at_0 (h := _) hS10) rfl rfl ?_
    refine fx_iload_n (i := 2) d_FP_unpackStrips_89 rfl rfl ?_
    refine fx_aload_n (i := 0) d_FP_unpackStrips_90 rfl rfl ?_
    refine fx_getR (q := 11) d_FP_unpackStrips_91 lk_FP_33 (at_0 (h := _) hS10) rfl rfl ?_
    refine fx_getI d_FP_unpackStrips_94 lk_FP_182 (at_11 (h := _) hS10) rfl ?_
    refine fx_imul d_FP_unpackStrips_97 ?_
    refine fx_aload_n (i := 0) d_FP_unpackStrips_98 rfl rfl ?_
    refine fx_getR (q := 11) d_FP_unpackStrips_99 lk_FP_33 (at_0 (h := _) hS10) rfl rfl ?_
    refine fx_getI d_FP_unpackStrips_102 lk_FP_241 (at_11 (h := _) hS10) rfl ?_
    refine fx_iload_n (i := 2) d_FP_unpackStrips_105 rfl rfl ?_
    refine fx_iconst d_FP_unpackStrips_106 ?_
    refine fx_iadd d_FP_unpackStrips_107 ?_
    refine fx_aload_n (i := 0) d_FP_unpackStrips_108 rfl rfl ?_
    refine fx_getR (q := 11) d_FP_unpackStrips_109 lk_FP_33 (at_0 (h := _) hS10) rfl rfl ?_
    refine fx_getI d_FP_unpackStrips_112 lk_FP_182 (at_11 (h := _) hS10) rfl ?_
    refine fx_imul d_FP_unpackStrips_115 ?_
    obtain ⟨hz12, H⟩ := H
    obtain ⟨hz13, H⟩ := H
    refine fx_min d_FP_unpackStrips_116 mm_FP_228 mw_min_s mw_i mw_min_c ⟨by decide, by decide⟩ (Nat.le_of_ble_eq_true rfl) ⟨Nat.le_refl _, Nat.le_refl _⟩ hz12 hz13 ?_
    refine fx_callF (M' := M_FX_unpack) (B' := (0, 0)) (vs := [.ref dd, .int (zI (x2 * (h10.2.1 11 6))), .int (zI (if ((x2 + 1) * (h10.2.1 11 6)) < (h10.2.1 11 4) then (x2 + 1) * (h10.2.1 11 6) else h10.2.1 11 4))]) (rest := []) (c1 := 0) (s1 := 0) (n := 124) d_FP_unpackStrips_119 cf_FP_unpackStrips_FX_unpack (at_23 (h := _) hS10) rfl rfl rfl ⟨by decide, by decide⟩ (Nat.le_of_ble_eq_true rfl) (Or.inl rfl) (fx_Mt.mono H fun v h14 hv => ?_)
    obtain ⟨r16, rfl, e15, H⟩ := hv
    have hS14 := e15.trans hS10
    have hp14 : h14.1[pp]? = some (hp_a, .inl (10, [some (pp + 1), none, none, none])) := by rw [e15]; exact hp10
    have hx14 : h14.1[(pp + 1)]? = some (hx_a, .inr (0, 960)) := by rw [e15]; exact hx10
    have hd14 : h14.1[dd]? = some (hd_a, .inl (10, [some (dd + 1), none, none, none])) := by rw [e15]; exact hd10
    have hy14 : h14.1[(dd + 1)]? = some (hy_a, .inr (0, 960)) := by rw [e15]; exact hy10
    show fx_V l M_FP_unpackStrips (0, 0) Q 0 0 124 [some (.ref 0), some (.ref 23), some (.int (zI x2))] [.int (zI r16)] h14
    obtain ⟨hz17, H⟩ := H
    refine fx_if_ne (t := 129) (n := 127) d_FP_unpackStrips_124 hz17 (fun z18 => ?_) (fun z18 => ?_)
    · replace H := H.1 z18
      refine fx_iinc (v := x2 + 1) (ls2 := [some (.ref 0), some (.ref 23), some (.int (zI (x2 + 1)))]) d_FP_unpackStrips_129 rfl rfl (by decide) rfl ?_
      refine fx_goto (n := 42) d_FP_unpackStrips_132 ?_
      exact H
    · replace H := H.2 z18
      refine fx_iconst d_FP_unpackStrips_127 ?_
      exact fx_end (some (.int (zI 0))) ⟨⟨_, rfl, rfl⟩, d_FP_unpackStrips_128⟩ (Nat.le_refl _) (Nat.le_refl _) rfl H

set_option maxRecDepth 100000 in
set_option maxHeartbeats 4000000 in
theorem w_FP_unpackStrips_42_24 {l : Launch} {Q : Option Value → fx_H → Prop} {h : fx_H}  {x2 : Int} {hp_a : Nat} {hx_a : Nat} {hd_a : Nat} {hy_a : Nat} {a : Nat → Nat} {pp dd : Nat} (hS : h.1 = fx_S0 a pp dd) (hp : h.1[pp]? = some (hp_a, .inl (10, [some (pp + 1), none, none, none]))) (hx : h.1[(pp + 1)]? = some (hx_a, .inr (0, 960))) (hd : h.1[dd]? = some (hd_a, .inl (10, [some (dd + 1), none, none, none]))) (hy : h.1[(dd + 1)]? = some (hy_a, .inr (0, 960)))
    (H : zR x2 ∧ zR (h.2.1 11 7) ∧ (((h.2.1 11 7) ≤ x2 → Q (some (.int (zI 1))) h) ∧ (¬ ((h.2.1 11 7) ≤ x2) → fx_Mt l M_TG_valueOf (0, 0) [.ref 11, .int (zI 273), .int (zI x2)] h (fun v h4 => ∃ r6 : Int, v = some (.long (zL r6)) ∧ h4.1 = h.1 ∧ fx_Mt l M_TG_valueOf (0, 0) [.ref 11, .int (zI 279), .int (zI x2)] h4 (fun v h7 => ∃ r9 : Int, v = some (.long (zL r9)) ∧ h7.1 = h4.1 ∧ fx_Mt l M_BR_open (0, 0) [.ref 3, .int (zI r6), .int (zI r9)] h7 (fun v h10 => v = none ∧ h10.1 = h7.1 ∧ zR (h10.2.1 11 4) ∧ zR ((x2 + 1) * (h10.2.1 11 6)) ∧ fx_Mt l M_FX_unpack (0, 0) [.ref 24, .ref dd, .int (zI (x2 * (h10.2.1 11 6))), .int (zI (if ((x2 + 1) * (h10.2.1 11 6)) < (h10.2.1 11 4) then (x2 + 1) * (h10.2.1 11 6) else h10.2.1 11 4))] h10 (fun v h14 => ∃ r16 : Int, v = some (.int (zI r16)) ∧ h14.1 = h10.1 ∧ zR r16 ∧ ((¬ r16 = 0 → (fx_V l M_FP_unpackStrips (0, 0) Q 0 0 42 [some (.ref 0), some (.ref 24), some (.int (zI (x2 + 1)))] [] h14)) ∧ (r16 = 0 → Q (some (.int (zI 0))) h14))))))))) :
    fx_V l M_FP_unpackStrips (0, 0) Q 0 0 42 [some (.ref 0), some (.ref 24), some (.int (zI x2))] [] h := by
  refine fx_iload_n (i := 2) d_FP_unpackStrips_42 rfl rfl ?_
  refine fx_aload_n (i := 0) d_FP_unpackStrips_43 rfl rfl ?_
  refine fx_getR (q := 11) d_FP_unpackStrips_44 lk_FP_33 (at_0 (h := _) hS) rfl rfl ?_
  refine fx_getI d_FP_unpackStrips_47 lk_FP_185 (at_11 (h := _) hS) rfl ?_
  obtain ⟨hz1, H⟩ := H
  obtain ⟨hz2, H⟩ := H
  refine fx_icmp_ge (t := 135) (n := 53) d_FP_unpackStrips_50 hz1 hz2 (fun z3 => ?_) (fun z3 => ?_)
  · replace H := H.1 z3
    refine fx_iconst d_FP_unpackStrips_135 ?_
    exact fx_end (some (.int (zI 1))) ⟨⟨_, rfl, rfl⟩, d_FP_unpackStrips_136⟩ (Nat.le_refl _) (Nat.le_refl _) rfl H
  · replace H := H.2 z3
    refine fx_aload_n (i := 0) d_FP_unpackStrips_53 rfl rfl ?_
    refine fx_getR (q := 3) d_FP_unpackStrips_54 lk_FP_26 (at_0 (h := _) hS) rfl rfl ?_
    refine fx_aload_n (i := 0) d_FP_unpackStrips_57 rfl rfl ?_
    refine fx_getR (q := 11) d_FP_unpackStrips_58 lk_FP_33 (at_0 (h := _) hS) rfl rfl ?_
    refine fx_sipush (v := 273) d_FP_unpackStrips_61 rfl ?_
    refine fx_iload_n (i := 2) d_FP_unpackStrips_64 rfl rfl ?_
    refine fx_callV (M' := M_TG_valueOf) (B' := (0, 0)) (vs := [.int (zI 273), .int (zI x2)]) (rest := [.ref 3]) (c1 := 0) (s1 := 0) (n := 68) d_FP_unpackStrips_65 ca_FP_unpackStrips_242 (at_11 (h := _) hS) rfl rfl rfl ⟨by decide, by decide⟩ (Nat.le_of_ble_eq_true rfl) (Or.inl rfl) (fx_Mt.mono H fun v h4 hv => ?_)
    obtain ⟨r6, rfl, e5, H⟩ := hv
    have hS4 := e5.trans hS
    have hp4 : h4.1[pp]? = some (hp_a, .inl (10, [some (pp + 1), none, none, none])) := by rw [e5]; exact hp
    have hx4 : h4.1[(pp + 1)]? = some (hx_a, .inr (0, 960)) := by rw [e5]; exact hx
    have hd4 : h4.1[dd]? = some (hd_a, .inl (10, [some (dd + 1), none, none, none])) := by rw [e5]; exact hd
    have hy4 : h4.1[(dd + 1)]? = some (hy_a, .inr (0, 960)) := by rw [e5]; exact hy
    show fx_V l M_FP_unpackStrips (0, 0) Q 0 0 68 [some (.ref 0), some (.ref 24), some (.int (zI x2))] [.long (zL r6), .ref 3] h4
    refine fx_l2i d_FP_unpackStrips_68 ?_
    refine fx_aload_n (i := 0) d_FP_unpackStrips_69 rfl rfl ?_
    refine fx_getR (q := 11) d_FP_unpackStrips_70 lk_FP_33 (at_0 (h := _) hS4) rfl rfl ?_
    refine fx_sipush (v := 279) d_FP_unpackStrips_73 rfl ?_
    refine fx_iload_n (i := 2) d_FP_unpackStrips_76 rfl rfl ?_
    refine fx_callV (M' := M_TG_valueOf) (B' := (0, 0)) (vs := [.int (zI 279), .int (zI x2)]) (rest := [.int (zI r6), .ref 3]) (c1 := 0) (s1 := 0) (n := 80) d_FP_unpackStrips_77 ca_FP_unpackStrips_242 (at_11 (h := _) hS4) rfl rfl rfl ⟨by decide, by decide⟩ (Nat.le_of_ble_eq_true rfl) (Or.inl rfl) (fx_Mt.mono H fun v h7 hv => ?_)
    obtain ⟨r9, rfl, e8, H⟩ := hv
    have hS7 := e8.trans hS4
    have hp7 : h7.1[pp]? = some (hp_a, .inl (10, [some (pp + 1), none, none, none])) := by rw [e8]; exact hp4
    have hx7 : h7.1[(pp + 1)]? = some (hx_a, .inr (0, 960)) := by rw [e8]; exact hx4
    have hd7 : h7.1[dd]? = some (hd_a, .inl (10, [some (dd + 1), none, none, none])) := by rw [e8]; exact hd4
    have hy7 : h7.1[(dd + 1)]? = some (hy_a, .inr (0, 960)) := by rw [e8]; exact hy4
    show fx_V l M_FP_unpackStrips (0, 0) Q 0 0 80 [some (.ref 0), some (.ref 24), some (.int (zI x2))] [.long (zL r9), .int (zI r6), .ref 3] h7
    refine fx_l2i d_FP_unpackStrips_80 ?_
    refine fx_callV (M' := M_BR_open) (B' := (0, 0)) (vs := [.int (zI r6), .int (zI r9)]) (rest := []) (c1 := 0) (s1 := 0) (n := 84) d_FP_unpackStrips_81 ca_FP_unpackStrips_246 (at_3 (h := _) hS7) rfl rfl rfl ⟨by decide, by decide⟩ (Nat.le_of_ble_eq_true rfl) (Or.inl rfl) (fx_Mt.mono H fun v h10 hv => ?_)
    obtain ⟨rfl, e11, H⟩ := hv
    have hS10 := e11.trans hS7
    have hp10 : h10.1[pp]? = some (hp_a, .inl (10, [some (pp + 1), none, none, none])) := by rw [e11]; exact hp7
    have hx10 : h10.1[(pp + 1)]? = some (hx_a, .inr (0, 960)) := by rw [e11]; exact hx7
    have hd10 : h10.1[dd]? = some (hd_a, .inl (10, [some (dd + 1), none, none, none])) := by rw [e11]; exact hd7
    have hy10 : h10.1[(dd + 1)]? = some (hy_a, .inr (0, 960)) := by rw [e11]; exact hy7
    show fx_V l M_FP_unpackStrips (0, 0) Q 0 0 84 [some (.ref 0), some (.ref 24), some (.int (zI x2))] [] h10
    refine fx_aload_n (i := 1) d_FP_unpackStrips_84 rfl rfl ?_
    refine fx_aload_n (i := 0) d_FP_unpackStrips_85 rfl rfl ?_
    refine fx_getR (q := dd) d_FP_unpackStrips_86 lk_FP_81 (at_0 (h := _) hS10) rfl rfl ?_
    refine fx_iload_n (i := 2) d_FP_unpackStrips_89 rfl rfl ?_
    refine fx_aload_n (i := 0) d_FP_unpackStrips_90 rfl rfl ?_
    refine fx_getR (q := 11) d_FP_unpackStrips_91 lk_FP_33 (at_0 (h := _) hS10) rfl rfl ?_
    refine fx_getI d_FP_unpackStrips_94 lk_FP_182 (at_11 (h := _) hS10) rfl ?_
    refine fx_imul d_FP_unpackStrips_97 ?_
    refine fx_aload_n (i := 0) d_FP_unpackStrips_98 rfl rfl ?_
    refine fx_getR (q := 11) d_FP_unpackStrips_99 lk_FP_33 (at_0 (h := _) hS10) rfl rfl ?_
    refine fx_getI d_FP_unpackStrips_102 lk_FP_241 (at_11 (h := _) hS10) rfl ?_
    refine fx_iload_n (i := 2) d_FP_unpackStrips_105 rfl rfl ?_
    refine fx_iconst d_FP_unpackStrips_106 ?_
    refine fx_iadd d_FP_unpackStrips_107 ?_
    refine fx_aload_n (i := 0) d_FP_unpackStrips_108 rfl rfl ?_
    refine fx_getR (q := 11) d_FP_unpackStrips_109 lk_FP_33 (at_0 (h := _) hS10) rfl rfl ?_
    refine fx_getI d_FP_unpackStrips_112 lk_FP_182 (at_11 (h := _) hS10) rfl ?_
    refine fx_imul d_FP_unpackStrips_115 ?_
    obtain ⟨hz12, H⟩ := H
    obtain ⟨hz13, H⟩ := H
    refine fx_min d_FP_unpackStrips_116 mm_FP_228 mw_min_s mw_i mw_min_c ⟨by decide, by decide⟩ (Nat.le_of_ble_eq_true rfl) ⟨Nat.le_refl _, Nat.le_refl _⟩ hz12 hz13 ?_
    refine fx_callF (M' := M_FX_unpack) (B' := (0, 0)) (vs := [.ref dd, .int (zI (x2 * (h10.2.1 11 6))), .int (zI (if ((x2 + 1) * (h10.2.1 11 6)) < (h10.2.1 11 4) then (x2 + 1) * (h10.2.1 11 6) else h10.2.1 11 4))]) (rest := []) (c1 := 0) (s1 := 0) (n := 124) d_FP_unpackStrips_119 cf_FP_unpackStrips_FX_unpack (at_24 (h := _) hS10) rfl rfl rfl ⟨by decide, by decide⟩ (Nat.le_of_ble_eq_true rfl) (Or.inl rfl) (fx_Mt.mono H fun v h14 hv => ?_)
    obtain ⟨r16, rfl, e15, H⟩ := hv
    have hS14 := e15.trans hS10
    have hp14 : h14.1[pp]? = some (hp_a, .inl (10, [some (pp + 1), none, none, none])) := by rw [e15]; exact hp10
    have hx14 : h14.1[(pp + 1)]? = some (hx_a, .inr (0, 960)) := by rw [e15]; exact hx10
    have hd14 : h14.1[dd]? = some (hd_a, .inl (10, [some (dd + 1), none, none, none])) := by rw [e15]; exact hd10
    have hy14 : h14.1[(dd + 1)]? = some (hy_a, .inr (0, 960)) := by rw [e15]; exact hy10
    show fx_V l M_FP_unpackStrips (0, 0) Q 0 0 124 [some (.ref 0), some (.ref 24), some (.int (zI x2))] [.int (zI r16)] h14
    obtain ⟨hz17, H⟩ := H
    refine fx_if_ne (t := 129) (n := 127) d_FP_unpackStrips_124 hz17 (fun z18 => ?_) (fun z18 => ?_)
    · replace H := H.1 z18
      refine fx_iinc (v := x2 + 1) (ls2 := [some (.ref 0), some (.ref 24), some (.int (zI (x2 + 1)))]) d_FP_unpackStrips_129 rfl rfl (by decide) rfl ?_
      refine fx_goto (n := 42) d_FP_unpackStrips_132 ?_
      exact H
    · replace H := H.2 z18
      refine fx_iconst d_FP_unpackStrips_127 ?_
      exact fx_end (some (.int (zI 0))) ⟨⟨_, rfl, rfl⟩, d_FP_unpackStrips_128⟩ (Nat.le_refl _) (Nat.le_refl _) rfl H

set_option maxRecDepth 100000 in
set_option maxHeartbeats 4000000 in
theorem e_FP_writeTags {l : Launch} {Q : Option Value → fx_H → Prop} {h : fx_H}  {s : Int} {n : Int} {m : Int} {hp_a : Nat} {hx_a : Nat} {hd_a : Nat} {hy_a : Nat} {a : Nat → Nat} {pp dd : Nat} (hS : h.1 = fx_S0 a pp dd) (hp : h.1[pp]? = some (hp_a, .inl (10, [some (pp + 1), none, none, none]))) (hx : h.1[(pp + 1)]? = some (hx_a, .inr (0, 960))) (hd : h.1[dd]? = some (hd_a, .inl (10, [some (dd + 1), none, none, none]))) (hy : h.1[(dd + 1)]? = some (hy_a, .inr (0, 960)))
    (H : zR m ∧ ((¬ m = 1 → fx_Mt l M_FP_appendLongs (0, 0) [.ref 0, .ref 25, .int (zI m)] h (fun v h3 => ∃ r5 : Int, v = some (.int (zI r5)) ∧ h3.1 = h.1 ∧ (fx_V l M_FP_writeTags (0, 0) Q 0 0 23 [some (.ref 0), some (.int (zI s)), some (.int (zI n)), some (.int (zI m)), none, none, none] [.int (zI r5)] h3))) ∧ (m = 1 → (fx_V l M_FP_writeTags (0, 0) Q 0 0 23 [some (.ref 0), some (.int (zI s)), some (.int (zI n)), some (.int (zI m)), none, none, none] [.int (zI (h.2.2.1 25 0))] h)))) :
    fx_Mt l M_FP_writeTags (0, 0) [.ref 0, .int (zI s), .int (zI n), .int (zI m)] h Q := by
  refine fx_entry (ls := [some (.ref 0), some (.int (zI s)), some (.int (zI n)), some (.int (zI m)), none, none, none]) (by decide) (Nat.le_of_ble_eq_true rfl) rfl ?_
  refine fx_iload_n (i := 3) d_FP_writeTags_0 rfl rfl ?_
  refine fx_iconst d_FP_writeTags_1 ?_
  obtain ⟨hz1, H⟩ := H
  refine fx_icmp_ne (t := 14) (n := 5) d_FP_writeTags_2 hz1 (show zR 1 by decide) (fun z2 => ?_) (fun z2 => ?_)
  · replace H := H.1 z2
    refine fx_aload_n (i := 0) d_FP_writeTags_14 rfl rfl ?_
    refine fx_aload_n (i := 0) d_FP_writeTags_15 rfl rfl ?_
    refine fx_getR (q := 25) d_FP_writeTags_16 lk_FP_67 (at_0 (h := _) hS) rfl rfl ?_
    refine fx_iload_n (i := 3) d_FP_writeTags_19 rfl rfl ?_
    refine fx_callV (M' := M_FP_appendLongs) (B' := (0, 0)) (vs := [.ref 25, .int (zI m)]) (rest := []) (c1 := 0) (s1 := 0) (n := 23) d_FP_writeTags_20 ca_FP_writeTags_253 (at_0 (h := _) hS) rfl rfl rfl ⟨by decide, by decide⟩ (Nat.le_of_ble_eq_true rfl) (Or.inl rfl) (fx_Mt.mono H fun v h3 hv => ?_)
    obtain ⟨r5, rfl, e4, H⟩ := hv
    have hS3 := e4.trans hS
    have hp3 : h3.1[pp]? = some (hp_a, .inl (10, [some (pp + 1), none, none, none])) := by rw [e4]; exact hp
    have hx3 : h3.1[(pp + 1)]? = some (hx_a, .inr (0, 960)) := by rw [e4]; exact hx
    have hd3 : h3.1[dd]? = some (hd_a, .inl (10, [some (dd + 1), none, none, none])) := by rw [e4]; exact hd
    have hy3 : h3.1[(dd + 1)]? = some (hy_a, .inr (0, 960)) := by rw [e4]; exact hy
    show fx_V l M_FP_writeTags (0, 0) Q 0 0 23 [some (.ref 0), some (.int (zI s)), some (.int (zI n)), some (.int (zI m)), none, none, none] [.int (zI r5)] h3
    exact H
  · replace H := H.2 z2
    refine fx_aload_n (i := 0) d_FP_writeTags_5 rfl rfl ?_
    refine fx_getR (q := 25) d_FP_writeTags_6 lk_FP_67 (at_0 (h := _) hS) rfl rfl ?_
    refine fx_iconst d_FP_writeTags_9 ?_
    refine fx_iald d_FP_writeTags_10 (at_25 (h := _) hS) (by decide) (by decide) (by decide) ?_
    refine fx_goto (n := 23) d_FP_writeTags_11 ?_
    exact H

set_option maxRecDepth 100000 in
set_option maxHeartbeats 4000000 in
theorem w_FP_writeTags_23 {l : Launch} {Q : Option Value → fx_H → Prop} {h : fx_H}  {x1 : Int} {x2 : Int} {x3 : Int} {y0 : Int} {hp_a : Nat} {hx_a : Nat} {hd_a : Nat} {hy_a : Nat} {a : Nat → Nat} {pp dd : Nat} (hS : h.1 = fx_S0 a pp dd) (hp : h.1[pp]? = some (hp_a, .inl (10, [some (pp + 1), none, none, none]))) (hx : h.1[(pp + 1)]? = some (hx_a, .inr (0, 960))) (hd : h.1[dd]? = some (hd_a, .inl (10, [some (dd + 1), none, none, none]))) (hy : h.1[(dd + 1)]? = some (hy_a, .inr (0, 960)))
    (H : zR x3 ∧ ((¬ x3 = 1 → fx_Mt l M_FP_appendLongs (0, 0) [.ref 0, .ref 26, .int (zI x3)] h (fun v h3 => ∃ r5 : Int, v = some (.int (zI r5)) ∧ h3.1 = h.1 ∧ (fx_V l M_FP_writeTags (0, 0) Q 0 0 48 [some (.ref 0), some (.int (zI x1)), some (.int (zI x2)), some (.int (zI x3)), some (.int (zI y0)), none, none] [.int (zI r5)] h3))) ∧ (x3 = 1 → (fx_V l M_FP_writeTags (0, 0) Q 0 0 48 [some (.ref 0), some (.int (zI x1)), some (.int (zI x2)), some (.int (zI x3)), some (.int (zI y0)), none, none] [.int (zI (h.2.2.1 26 0))] h)))) :
    fx_V l M_FP_writeTags (0, 0) Q 0 0 23 [some (.ref 0), some (.int (zI x1)), some (.int (zI x2)), some (.int (zI x3)), none, none, none] [.int (zI y0)] h := by
  refine fx_istore (ls2 := [some (.ref 0), some (.int (zI x1)), some (.int (zI x2)), some (.int (zI x3)), some (.int (zI y0)), none, none]) d_FP_writeTags_23 (by decide) rfl ?_
  refine fx_iload_n (i := 3) d_FP_writeTags_25 rfl rfl ?_
  refine fx_iconst d_FP_writeTags_26 ?_
  obtain ⟨hz1, H⟩ := H
  refine fx_icmp_ne (t := 39) (n := 30) d_FP_writeTags_27 hz1 (show zR 1 by decide) (fun z2 => ?_) (fun z2 => ?_)
  · replace H := H.1 z2
    refine fx_aload_n (i := 0) d_FP_writeTags_39 rfl rfl ?_
    refine fx_aload_n (i := 0) d_FP_writeTags_40 rfl rfl ?_
    refine fx_getR (q := 26) d_FP_writeTags_41 lk_FP_71 (at_0 (h := _) hS) rfl rfl ?_
    refine fx_iload_n (i := 3) d_FP_writeTags_44 rfl rfl ?_
    refine fx_callV (M' := M_FP_appendLongs) (B' := (0, 0)) (vs := [.ref 26, .int (zI x3)]) (rest := []) (c1 := 0) (s1 := 0) (n := 48) d_FP_writeTags_45 ca_FP_writeTags_253 (at_0 (h := _) hS) rfl rfl rfl ⟨by decide, by decide⟩ (Nat.le_of_ble_eq_true rfl) (Or.inl rfl) (fx_Mt.mono H fun v h3 hv => ?_)
    obtain ⟨r5, rfl, e4, H⟩ := hv
    have hS3 := e4.trans hS
    have hp3 : h3.1[pp]? = some (hp_a, .inl (10, [some (pp + 1), none, none, none])) := by rw [e4]; exact hp
    have hx3 : h3.1[(pp + 1)]? = some (hx_a, .inr (0, 960)) := by rw [e4]; exact hx
    have hd3 : h3.1[dd]? = some (hd_a, .inl (10, [some (dd + 1), none, none, none])) := by rw [e4]; exact hd
    have hy3 : h3.1[(dd + 1)]? = some (hy_a, .inr (0, 960)) := by rw [e4]; exact hy
    show fx_V l M_FP_writeTags (0, 0) Q 0 0 48 [some (.ref 0), some (.int (zI x1)), some (.int (zI x2)), some (.int (zI x3)), some (.int (zI y0)), none, none] [.int (zI r5)] h3
    exact H
  · replace H := H.2 z2
    refine fx_aload_n (i := 0) d_FP_writeTags_30 rfl rfl ?_
    refine fx_getR (q := 26) d_FP_writeTags_31 lk_FP_71 (at_0 (h := _) hS) rfl rfl ?_
    refine fx_iconst d_FP_writeTags_34 ?_
    refine fx_iald d_FP_writeTags_35 (at_26 (h := _) hS) (by decide) (by decide) (by decide) ?_
    refine fx_goto (n := 48) d_FP_writeTags_36 ?_
    exact H

set_option maxRecDepth 100000 in
set_option maxHeartbeats 4000000 in
theorem w_FP_writeTags_48 {l : Launch} {Q : Option Value → fx_H → Prop} {h : fx_H}  {x1 : Int} {x2 : Int} {x3 : Int} {x4 : Int} {y0 : Int} {hp_a : Nat} {hx_a : Nat} {hd_a : Nat} {hy_a : Nat} {a : Nat → Nat} {pp dd : Nat} (hS : h.1 = fx_S0 a pp dd) (hp : h.1[pp]? = some (hp_a, .inl (10, [some (pp + 1), none, none, none]))) (hx : h.1[(pp + 1)]? = some (hx_a, .inr (0, 960))) (hd : h.1[dd]? = some (hd_a, .inl (10, [some (dd + 1), none, none, none]))) (hy : h.1[(dd + 1)]? = some (hy_a, .inr (0, 960)))
    (H : 0 ≤ (h.2.1 1 1) ∧ zR (h.2.1 1 1) ∧ zR ((h.2.1 1 1) % 2) ∧ ((¬ ((h.2.1 1 1) % 2) = 1 → fx_Mt l M_BY_changeNumber (0, 0) [.ref 1, .int (zI 4), .int (zI 4), .int (zI (h.2.1 1 1))] h (fun v h5 => v = none ∧ h5.1 = h.1 ∧ zR x1 ∧ ((¬ x1 = 3 → (fx_V l M_FP_writeTags (0, 0) Q 0 0 97 [some (.ref 0), some (.int (zI x1)), some (.int (zI x2)), some (.int (zI x3)), some (.int (zI x4)), some (.int (zI y0)), none] [.int (zI 0)] h5)) ∧ (x1 = 3 → (fx_V l M_FP_writeTags (0, 0) Q 0 0 97 [some (.ref 0), some (.int (zI x1)), some (.int (zI x2)), some (.int (zI x3)), some (.int (zI x4)), some (.int (zI y0)), none] [.int (zI 1)] h5))))) ∧ (((h.2.1 1 1) % 2) = 1 → fx_Mt l M_BY_append (0, 0) [.ref 1, .int (zI 0)] h (fun v h9 => v = none ∧ h9.1 = h.1 ∧ (fx_V l M_FP_writeTags (0, 0) Q 0 0 71 [some (.ref 0), some (.int (zI x1)), some (.int (zI x2)), some (.int (zI x3)), some (.int (zI x4)), some (.int (zI y0)), none] [] h9))))) :
    fx_V l M_FP_writeTags (0, 0) Q 0 0 48 [some (.ref 0), some (.int (zI x1)), some (.int (zI x2)), some (.int (zI x3)), some (.int (zI x4)), none, none] [.int (zI y0)] h := by
  refine fx_istore (ls2 := [some (.ref 0), some (.int (zI x1)), some (.int (zI x2)), some (.int (zI x3)), some (.int (zI x4)), some (.int (zI y0)), none]) d_FP_writeTags_48 (by decide) rfl ?_
  refine fx_aload_n (i := 0) d_FP_writeTags_50 rfl rfl ?_
  refine fx_getR (q := 1) d_FP_writeTags_51 lk_FP_20 (at_0 (h := _) hS) rfl rfl ?_
  refine fx_getI d_FP_writeTags_54 lk_FP_160 (at_1 (h := _) hS) rfl ?_
  refine fx_iconst d_FP_writeTags_57 ?_
  obtain ⟨hn1, H⟩ := H
  obtain ⟨hz2, H⟩ := H
  refine fx_irem d_FP_writeTags_58 hn1 hz2 (show (0 : Int) < 2 by decide) (show zR 2 by decide) ?_
  refine fx_iconst d_FP_writeTags_59 ?_
  obtain ⟨hz3, H⟩ := H
  refine fx_icmp_ne (t := 71) (n := 63) d_FP_writeTags_60 hz3 (show zR 1 by decide) (fun z4 => ?_) (fun z4 => ?_)
  · replace H := H.1 z4
    refine fx_aload_n (i := 0) d_FP_writeTags_71 rfl rfl ?_
    refine fx_getR (q := 1) d_FP_writeTags_72 lk_FP_20 (at_0 (h := _) hS) rfl rfl ?_
    refine fx_iconst d_FP_writeTags_75 ?_
    refine fx_iconst d_FP_writeTags_76 ?_
    refine fx_aload_n (i := 0) d_FP_writeTags_77 rfl rfl ?_
    refine fx_getR (q := 1) d_FP_writeTags_78 lk_FP_20 (at_0 (h := _) hS) rfl rfl ?_
    refine fx_getI d_FP_writeTags_81 lk_FP_160 (at_1 (h := _) hS) rfl ?_
    refine fx_callV (M' := M_BY_changeNumber) (B' := (0, 0)) (vs := [.int (zI 4), .int (zI 4), .int (zI (h.2.1 1 1))]) (rest := []) (c1 := 0) (s1 := 0) (n := 87) d_FP_writeTags_84 ca_FP_writeTags_257 (at_1 (h := _) hS) rfl rfl rfl ⟨by decide, by decide⟩ (Nat.le_of_ble_eq_true rfl) (Or.inl rfl) (fx_Mt.mono H fun v h5 hv => ?_)
    obtain ⟨rfl, e6, H⟩ := hv
    have hS5 := e6.trans hS
    have hp5 : h5.1[pp]? = some (hp_a, .inl (10, [some (pp + 1), none, none, none])) := by rw [e6]; exact hp
    have hx5 : h5.1[(pp + 1)]? = some (hx_a, .inr (0, 960)) := by rw [e6]; exact hx
    have hd5 : h5.1[dd]? = some (hd_a, .inl (10, [some (dd + 1), none, none, none])) := by rw [e6]; exact hd
    have hy5 : h5.1[(dd + 1)]? = some (hy_a, .inr (0, 960)) := by rw [e6]; exact hy
    show fx_V l M_FP_writeTags (0, 0) Q 0 0 87 [some (.ref 0), some (.int (zI x1)), some (.int (zI x2)), some (.int (zI x3)), some (.int (zI x4)), some (.int (zI y0)), none] [] h5
    refine fx_iload_n (i := 1) d_FP_writeTags_87 rfl rfl ?_
    refine fx_iconst d_FP_writeTags_88 ?_
    obtain ⟨hz7, H⟩ := H
    refine fx_icmp_ne (t := 96) (n := 92) d_FP_writeTags_89 hz7 (show zR 3 by decide) (fun z8 => ?_) (fun z8 => ?_)
    · replace H := H.1 z8
      refine fx_iconst d_FP_writeTags_96 ?_
      exact H
    · replace H := H.2 z8
      refine fx_iconst d_FP_writeTags_92 ?_
      refine fx_goto (n := 97) d_FP_writeTags_93 ?_
      exact H
  · replace H := H.2 z4
    refine fx_aload_n (i := 0) d_FP_writeTags_63 rfl rfl ?_
    refine fx_getR (q := 1) d_FP_writeTags_64 lk_FP_20 (at_0 (h := _) hS) rfl rfl ?_
    refine fx_iconst d_FP_writeTags_67 ?_
    refine fx_callV (M' := M_BY_append) (B' := (0, 0)) (vs := [.int (zI 0)]) (rest := []) (c1 := 0) (s1 := 0) (n := 71) d_FP_writeTags_68 ca_FP_writeTags_201 (at_1 (h := _) hS) rfl rfl rfl ⟨by decide, by decide⟩ (Nat.le_of_ble_eq_true rfl) (Or.inl rfl) (fx_Mt.mono H fun v h9 hv => ?_)
    obtain ⟨rfl, e10, H⟩ := hv
    have hS9 := e10.trans hS
    have hp9 : h9.1[pp]? = some (hp_a, .inl (10, [some (pp + 1), none, none, none])) := by rw [e10]; exact hp
    have hx9 : h9.1[(pp + 1)]? = some (hx_a, .inr (0, 960)) := by rw [e10]; exact hx
    have hd9 : h9.1[dd]? = some (hd_a, .inl (10, [some (dd + 1), none, none, none])) := by rw [e10]; exact hd
    have hy9 : h9.1[(dd + 1)]? = some (hy_a, .inr (0, 960)) := by rw [e10]; exact hy
    show fx_V l M_FP_writeTags (0, 0) Q 0 0 71 [some (.ref 0), some (.int (zI x1)), some (.int (zI x2)), some (.int (zI x3)), some (.int (zI x4)), some (.int (zI y0)), none] [] h9
    exact H

set_option maxRecDepth 100000 in
set_option maxHeartbeats 4000000 in
theorem w_FP_writeTags_71 {l : Launch} {Q : Option Value → fx_H → Prop} {h : fx_H}  {x1 : Int} {x2 : Int} {x3 : Int} {x4 : Int} {x5 : Int} {hp_a : Nat} {hx_a : Nat} {hd_a : Nat} {hy_a : Nat} {a : Nat → Nat} {pp dd : Nat} (hS : h.1 = fx_S0 a pp dd) (hp : h.1[pp]? = some (hp_a, .inl (10, [some (pp + 1), none, none, none]))) (hx : h.1[(pp + 1)]? = some (hx_a, .inr (0, 960))) (hd : h.1[dd]? = some (hd_a, .inl (10, [some (dd + 1), none, none, none]))) (hy : h.1[(dd + 1)]? = some (hy_a, .inr (0, 960)))
    (H : fx_Mt l M_BY_changeNumber (0, 0) [.ref 1, .int (zI 4), .int (zI 4), .int (zI (h.2.1 1 1))] h (fun v h1 => v = none ∧ h1.1 = h.1 ∧ zR x1 ∧ ((¬ x1 = 3 → (fx_V l M_FP_writeTags (0, 0) Q 0 0 97 [some (.ref 0), some (.int (zI x1)), some (.int (zI x2)), some (.int (zI x3)), some (.int (zI x4)), some (.int (zI x5)), none] [.int (zI 0)] h1)) ∧ (x1 = 3 → (fx_V l M_FP_writeTags (0, 0) Q 0 0 97 [some (.ref 0), some (.int (zI x1)), some (.int (zI x2)), some (.int (zI x3)), some (.int (zI x4)), some (.int (zI x5)), none] [.int (zI 1)] h1))))) :
    fx_V l M_FP_writeTags (0, 0) Q 0 0 71 [some (.ref 0), some (.int (zI x1)), some (.int (zI x2)), some (.int (zI x3)), some (.int (zI x4)), some (.int (zI x5)), none] [] h := by
  refine fx_aload_n (i := 0) d_FP_writeTags_71 rfl rfl ?_
  refine fx_getR (q := 1) d_FP_writeTags_72 lk_FP_20 (at_0 (h := _) hS) rfl rfl ?_
  refine fx_iconst d_FP_writeTags_75 ?_
  refine fx_iconst d_FP_writeTags_76 ?_
  refine fx_aload_n (i := 0) d_FP_writeTags_77 rfl rfl ?_
  refine fx_getR (q := 1) d_FP_writeTags_78 lk_FP_20 (at_0 (h := _) hS) rfl rfl ?_
  refine fx_getI d_FP_writeTags_81 lk_FP_160 (at_1 (h := _) hS) rfl ?_
  refine fx_callV (M' := M_BY_changeNumber) (B' := (0, 0)) (vs := [.int (zI 4), .int (zI 4), .int (zI (h.2.1 1 1))]) (rest := []) (c1 := 0) (s1 := 0) (n := 87) d_FP_writeTags_84 ca_FP_writeTags_257 (at_1 (h := _) hS) rfl rfl rfl ⟨by decide, by decide⟩ (Nat.le_of_ble_eq_true rfl) (Or.inl rfl) (fx_Mt.mono H fun v h1 hv => ?_)
  obtain ⟨rfl, e2, H⟩ := hv
  have hS1 := e2.trans hS
  have hp1 : h1.1[pp]? = some (hp_a, .inl (10, [some (pp + 1), none, none, none])) := by rw [e2]; exact hp
  have hx1 : h1.1[(pp + 1)]? = some (hx_a, .inr (0, 960)) := by rw [e2]; exact hx
  have hd1 : h1.1[dd]? = some (hd_a, .inl (10, [some (dd + 1), none, none, none])) := by rw [e2]; exact hd
  have hy1 : h1.1[(dd + 1)]? = some (hy_a, .inr (0, 960)) := by rw [e2]; exact hy
  show fx_V l M_FP_writeTags (0, 0) Q 0 0 87 [some (.ref 0), some (.int (zI x1)), some (.int (zI x2)), some (.int (zI x3)), some (.int (zI x4)), some (.int (zI x5)), none] [] h1
  refine fx_iload_n (i := 1) d_FP_writeTags_87 rfl rfl ?_
  refine fx_iconst d_FP_writeTags_88 ?_
  obtain ⟨hz3, H⟩ := H
  refine fx_icmp_ne (t := 96) (n := 92) d_FP_writeTags_89 hz3 (show zR 3 by decide) (fun z4 => ?_) (fun z4 => ?_)
  · replace H := H.1 z4
    refine fx_iconst d_FP_writeTags_96 ?_
    exact H
  · replace H := H.2 z4
    refine fx_iconst d_FP_writeTags_92 ?_
    refine fx_goto (n := 97) d_FP_writeTags_93 ?_
    exact H

set_option maxRecDepth 100000 in
set_option maxHeartbeats 4000000 in
theorem w_FP_writeTags_97 {l : Launch} {Q : Option Value → fx_H → Prop} {h : fx_H}  {x1 : Int} {x2 : Int} {x3 : Int} {x4 : Int} {x5 : Int} {y0 : Int} {hp_a : Nat} {hx_a : Nat} {hd_a : Nat} {hy_a : Nat} {a : Nat → Nat} {pp dd : Nat} (hS : h.1 = fx_S0 a pp dd) (hp : h.1[pp]? = some (hp_a, .inl (10, [some (pp + 1), none, none, none]))) (hx : h.1[(pp + 1)]? = some (hx_a, .inr (0, 960))) (hd : h.1[dd]? = some (hd_a, .inl (10, [some (dd + 1), none, none, none]))) (hy : h.1[(dd + 1)]? = some (hy_a, .inr (0, 960)))
    (H : zR y0 ∧ ((y0 = 0 → (fx_V l M_FP_writeTags (0, 0) Q 0 0 122 [some (.ref 0), some (.int (zI x1)), some (.int (zI x2)), some (.int (zI x3)), some (.int (zI x4)), some (.int (zI x5)), some (.int (zI y0))] [.int (zI 8), .int (zI 2), .ref 1] h)) ∧ (¬ (y0 = 0) → (fx_V l M_FP_writeTags (0, 0) Q 0 0 122 [some (.ref 0), some (.int (zI x1)), some (.int (zI x2)), some (.int (zI x3)), some (.int (zI x4)), some (.int (zI x5)), some (.int (zI y0))] [.int (zI 9), .int (zI 2), .ref 1] h)))) :
    fx_V l M_FP_writeTags (0, 0) Q 0 0 97 [some (.ref 0), some (.int (zI x1)), some (.int (zI x2)), some (.int (zI x3)), some (.int (zI x4)), some (.int (zI x5)), none] [.int (zI y0)] h := by
  refine fx_istore (ls2 := [some (.ref 0), some (.int (zI x1)), some (.int (zI x2)), some (.int (zI x3)), some (.int (zI x4)), some (.int (zI x5)), some (.int (zI y0))]) d_FP_writeTags_97 (by decide) rfl ?_
  refine fx_aload_n (i := 0) d_FP_writeTags_99 rfl rfl ?_
  refine fx_getR (q := 1) d_FP_writeTags_100 lk_FP_20 (at_0 (h := _) hS) rfl rfl ?_
  refine fx_iconst d_FP_writeTags_103 ?_
  refine fx_iload d_FP_writeTags_104 rfl ?_
  obtain ⟨hz1, H⟩ := H
  refine fx_if_eq (t := 116) (n := 109) d_FP_writeTags_106 hz1 (fun z2 => ?_) (fun z2 => ?_)
  · replace H := H.1 z2
    refine fx_gets (k0 := 0) d_FP_writeTags_116 ls_FP_260 ?_
    refine fx_tlen (k0 := 0) (v := 9) d_FP_writeTags_119 rfl rfl ?_
    refine fx_iconst d_FP_writeTags_120 ?_
    refine fx_isub d_FP_writeTags_121 ?_
    exact H
  · replace H := H.2 z2
    refine fx_gets (k0 := 0) d_FP_writeTags_109 ls_FP_260 ?_
    refine fx_tlen (k0 := 0) (v := 9) d_FP_writeTags_112 rfl rfl ?_
    refine fx_goto (n := 122) d_FP_writeTags_113 ?_
    exact H

set_option maxRecDepth 100000 in
set_option maxHeartbeats 4000000 in
theorem w_FP_writeTags_122 {l : Launch} {Q : Option Value → fx_H → Prop} {h : fx_H}  {x1 : Int} {x2 : Int} {x3 : Int} {x4 : Int} {x5 : Int} {x6 : Int} {y0 : Int} {y1 : Int} {hp_a : Nat} {hx_a : Nat} {hd_a : Nat} {hy_a : Nat} {a : Nat → Nat} {pp dd : Nat} (hS : h.1 = fx_S0 a pp dd) (hp : h.1[pp]? = some (hp_a, .inl (10, [some (pp + 1), none, none, none]))) (hx : h.1[(pp + 1)]? = some (hx_a, .inr (0, 960))) (hd : h.1[dd]? = some (hd_a, .inl (10, [some (dd + 1), none, none, none]))) (hy : h.1[(dd + 1)]? = some (hy_a, .inr (0, 960)))
    (H : fx_Mt l M_BY_appendNumber (0, 0) [.ref 1, .int (zI y1), .int (zI y0)] h (fun v h1 => v = none ∧ h1.1 = h.1 ∧ fx_Mt l M_FP_appendShortTag (0, 0) [.ref 0, .int (zI 256), .int (zI (h1.2.1 pp 2))] h1 (fun v h3 => v = none ∧ h3.1 = h1.1 ∧ fx_Mt l M_FP_appendShortTag (0, 0) [.ref 0, .int (zI 257), .int (zI (h3.2.1 pp 3))] h3 (fun v h5 => v = none ∧ h5.1 = h3.1 ∧ zR (h5.2.1 pp 1) ∧ (((h5.2.1 pp 1) = 0 → (fx_V l M_FP_writeTags (0, 0) Q 0 0 173 [some (.ref 0), some (.int (zI x1)), some (.int (zI x2)), some (.int (zI x3)), some (.int (zI x4)), some (.int (zI x5)), some (.int (zI x6))] [.int (zI 1), .int (zI 258), .ref 0] h5)) ∧ (¬ ((h5.2.1 pp 1) = 0) → (fx_V l M_FP_writeTags (0, 0) Q 0 0 173 [some (.ref 0), some (.int (zI x1)), some (.int (zI x2)), some (.int (zI x3)), some (.int (zI x4)), some (.int (zI x5)), some (.int (zI x6))] [.int (zI 8), .int (zI 258), .ref 0] h5))))))) :
    fx_V l M_FP_writeTags (0, 0) Q 0 0 122 [some (.ref 0), some (.int (zI x1)), some (.int (zI x2)), some (.int (zI x3)), some (.int (zI x4)), some (.int (zI x5)), some (.int (zI x6))] [.int (zI y0), .int (zI y1), .ref 1] h := by
  refine fx_callV (M' := M_BY_appendNumber) (B' := (0, 0)) (vs := [.int (zI y1), .int (zI y0)]) (rest := []) (c1 := 0) (s1 := 0) (n := 125) d_FP_writeTags_122 ca_FP_writeTags_263 (at_1 (h := _) hS) rfl rfl rfl ⟨by decide, by decide⟩ (Nat.le_of_ble_eq_true rfl) (Or.inl rfl) (fx_Mt.mono H fun v h1 hv => ?_)
  obtain ⟨rfl, e2, H⟩ := hv
  have hS1 := e2.trans hS
  have hp1 : h1.1[pp]? = some (hp_a, .inl (10, [some (pp + 1), none, none, none])) := by rw [e2]; exact hp
  have hx1 : h1.1[(pp + 1)]? = some (hx_a, .inr (0, 960)) := by rw [e2]; exact hx
  have hd1 : h1.1[dd]? = some (hd_a, .inl (10, [some (dd + 1), none, none, none])) := by rw [e2]; exact hd
  have hy1 : h1.1[(dd + 1)]? = some (hy_a, .inr (0, 960)) := by rw [e2]; exact hy
  show fx_V l M_FP_writeTags (0, 0) Q 0 0 125 [some (.ref 0), some (.int (zI x1)), some (.int (zI x2)), some (.int (zI x3)), some (.int (zI x4)), some (.int (zI x5)), some (.int (zI x6))] [] h1
  refine fx_aload_n (i := 0) d_FP_writeTags_125 rfl rfl ?_
  refine fx_sipush (v := 256) d_FP_writeTags_126 rfl ?_
  refine fx_aload_n (i := 0) d_FP_writeTags_129 rfl rfl ?_
  refine fx_getR (q := pp) d_FP_writeTags_130 lk_FP_77 (at_0 (h := _) hS1) rfl rfl ?_
  refine fx_getI d_FP_writeTags_133 lk_FP_114 hp1 rfl ?_
  refine fx_callV (M' := M_FP_appendShortTag) (B' := (0, 0)) (vs := [.int (zI 256), .int (zI (h1.2.1 pp 2))]) (rest := []) (c1 := 0) (s1 := 0) (n := 139) d_FP_writeTags_136 ca_FP_writeTags_266 (at_0 (h := _) hS1) rfl rfl rfl ⟨by decide, by decide⟩ (Nat.le_of_ble_eq_true rfl) (Or.inl rfl) (fx_Mt.mono H fun v h3 hv => ?_)
  obtain ⟨rfl, e4, H⟩ := hv
  have hS3 := e4.trans hS1
  have hp3 : h3.1[pp]? = some (hp_a, .inl (10, [some (pp + 1), none, none, none])) := by rw [e4]; exact hp1
  have hx3 : h3.1[(pp + 1)]? = some (hx_a, .inr (0, 960)) := by rw [e4]; exact hx1
  have hd3 : h3.1[dd]? = some (hd_a, .inl (10, [some (dd + 1), none, none, none])) := by rw [e4]; exact hd1
  have hy3 : h3.1[(dd + 1)]? = some (hy_a, .inr (0, 960)) := by rw [e4]; exact hy1
  show fx_V l M_FP_writeTags (0, 0) Q 0 0 139 [some (.ref 0), some (.int (zI x1)), some (.int (zI x2)), some (.int (zI x3)), some (.int (zI x4)), some (.int (zI x5)), some (.int (zI x6))] [] h3
  refine fx_aload_n (i := 0) d_FP_writeTags_139 rfl rfl ?_
  refine fx_sipush (v := 257) d_FP_writeTags_140 rfl ?_
  refine fx_aload_n (i := 0) d_FP_writeTags_143 rfl rfl ?_
  refine fx_getR (q := pp) d_FP_writeTags_144 lk_FP_77 (at_0 (h := _) hS3) rfl rfl ?_
  refine fx_getI d_FP_writeTags_147 lk_FP_118 hp3 rfl ?_
  refine fx_callV (M' := M_FP_appendShortTag) (B' := (0, 0)) (vs := [.int (zI 257), .int (zI (h3.2.1 pp 3))]) (rest := []) (c1 := 0) (s1 := 0) (n := 153) d_FP_writeTags_150 ca_FP_writeTags_266 (at_0 (h := _) hS3) rfl rfl rfl ⟨by decide, by decide⟩ (Nat.le_of_ble_eq_true rfl) (Or.inl rfl) (fx_Mt.mono H fun v h5 hv => ?_)
  obtain ⟨rfl, e6, H⟩ := hv
  have hS5 := e6.trans hS3
  have hp5 : h5.1[pp]? = some (hp_a, .inl (10, [some (pp + 1), none, none, none])) := by rw [e6]; exact hp3
  have hx5 : h5.1[(pp + 1)]? = some (hx_a, .inr (0, 960)) := by rw [e6]; exact hx3
  have hd5 : h5.1[dd]? = some (hd_a, .inl (10, [some (dd + 1), none, none, none])) := by rw [e6]; exact hd3
  have hy5 : h5.1[(dd + 1)]? = some (hy_a, .inr (0, 960)) := by rw [e6]; exact hy3
  show fx_V l M_FP_writeTags (0, 0) Q 0 0 153 [some (.ref 0), some (.int (zI x1)), some (.int (zI x2)), some (.int (zI x3)), some (.int (zI x4)), some (.int (zI x5)), some (.int (zI x6))] [] h5
  refine fx_aload_n (i := 0) d_FP_writeTags_153 rfl rfl ?_
  refine fx_sipush (v := 258) d_FP_writeTags_154 rfl ?_
  refine fx_aload_n (i := 0) d_FP_writeTags_157 rfl rfl ?_
  refine fx_getR (q := pp) d_FP_writeTags_158 lk_FP_77 (at_0 (h := _) hS5) rfl rfl ?_
  refine fx_getI d_FP_writeTags_161 lk_FP_102 hp5 rfl ?_
  obtain ⟨hz7, H⟩ := H
  refine fx_if_eq (t := 172) (n := 167) d_FP_writeTags_164 hz7 (fun z8 => ?_) (fun z8 => ?_)
  · replace H := H.1 z8
    refine fx_iconst d_FP_writeTags_172 ?_
    exact H
  · replace H := H.2 z8
    refine fx_bipush (v := 8) d_FP_writeTags_167 rfl ?_
    refine fx_goto (n := 173) d_FP_writeTags_169 ?_
    exact H

set_option maxRecDepth 100000 in
set_option maxHeartbeats 4000000 in
theorem w_FP_writeTags_173 {l : Launch} {Q : Option Value → fx_H → Prop} {h : fx_H}  {x1 : Int} {x2 : Int} {x3 : Int} {x4 : Int} {x5 : Int} {x6 : Int} {y0 : Int} {y1 : Int} {hp_a : Nat} {hx_a : Nat} {hd_a : Nat} {hy_a : Nat} {a : Nat → Nat} {pp dd : Nat} (hS : h.1 = fx_S0 a pp dd) (hp : h.1[pp]? = some (hp_a, .inl (10, [some (pp + 1), none, none, none]))) (hx : h.1[(pp + 1)]? = some (hx_a, .inr (0, 960))) (hd : h.1[dd]? = some (hd_a, .inl (10, [some (dd + 1), none, none, none]))) (hy : h.1[(dd + 1)]? = some (hy_a, .inr (0, 960)))
    (H : fx_Mt l M_FP_appendShortTag (0, 0) [.ref 0, .int (zI y1), .int (zI y0)] h (fun v h1 => v = none ∧ h1.1 = h.1 ∧ fx_Mt l M_FP_appendShortTag (0, 0) [.ref 0, .int (zI 259), .int (zI x1)] h1 (fun v h3 => v = none ∧ h3.1 = h1.1 ∧ zR (h3.2.1 pp 1) ∧ (((h3.2.1 pp 1) = 0 → (fx_V l M_FP_writeTags (0, 0) Q 0 0 203 [some (.ref 0), none, some (.int (zI x2)), some (.int (zI x3)), some (.int (zI x4)), some (.int (zI x5)), some (.int (zI x6))] [.int (zI 0), .int (zI 262), .ref 0] h3)) ∧ (¬ ((h3.2.1 pp 1) = 0) → (fx_V l M_FP_writeTags (0, 0) Q 0 0 203 [some (.ref 0), none, some (.int (zI x2)), some (.int (zI x3)), some (.int (zI x4)), some (.int (zI x5)), some (.int (zI x6))] [.int (zI 1), .int (zI 262), .ref 0] h3)))))) :
    fx_V l M_FP_writeTags (0, 0) Q 0 0 173 [some (.ref 0), some (.int (zI x1)), some (.int (zI x2)), some (.int (zI x3)), some (.int (zI x4)), some (.int (zI x5)), some (.int (zI x6))] [.int (zI y0), .int (zI y1), .ref 0] h := by
  refine fx_callV (M' := M_FP_appendShortTag) (B' := (0, 0)) (vs := [.int (zI y1), .int (zI y0)]) (rest := []) (c1 := 0) (s1 := 0) (n := 176) d_FP_writeTags_173 ca_FP_writeTags_266 (at_0 (h := _) hS) rfl rfl rfl ⟨by decide, by decide⟩ (Nat.le_of_ble_eq_true rfl) (Or.inl rfl) (fx_Mt.mono H fun v h1 hv => ?_)
  obtain ⟨rfl, e2, H⟩ := hv
  have hS1 := e2.trans hS
  have hp1 : h1.1[pp]? = some (hp_a, .inl (10, [some (pp + 1), none, none, none])) := by rw [e2]; exact hp
  have hx1 : h1.1[(pp + 1)]? = some (hx_a, .inr (0, 960)) := by rw [e2]; exact hx
  have hd1 : h1.1[dd]? = some (hd_a, .inl (10, [some (dd + 1), none, none, none])) := by rw [e2]; exact hd
  have hy1 : h1.1[(dd + 1)]? = some (hy_a, .inr (0, 960)) := by rw [e2]; exact hy
  show fx_V l M_FP_writeTags (0, 0) Q 0 0 176 [some (.ref 0), some (.int (zI x1)), some (.int (zI x2)), some (.int (zI x3)), some (.int (zI x4)), some (.int (zI x5)), some (.int (zI x6))] [] h1
  refine fx_aload_n (i := 0) d_FP_writeTags_176 rfl rfl ?_
  refine fx_sipush (v := 259) d_FP_writeTags_177 rfl ?_
  refine fx_iload_n (i := 1) d_FP_writeTags_180 rfl rfl ?_
  refine fx_callV (M' := M_FP_appendShortTag) (B' := (0, 0)) (vs := [.int (zI 259), .int (zI x1)]) (rest := []) (c1 := 0) (s1 := 0) (n := 184) d_FP_writeTags_181 ca_FP_writeTags_266 (at_0 (h := _) hS1) rfl rfl rfl ⟨by decide, by decide⟩ (Nat.le_of_ble_eq_true rfl) (Or.inl rfl) (fx_Mt.mono H fun v h3 hv => ?_)
  obtain ⟨rfl, e4, H⟩ := hv
  have hS3 := e4.trans hS1
  have hp3 : h3.1[pp]? = some (hp_a, .inl (10, [some (pp + 1), none, none, none])) := by rw [e4]; exact hp1
  have hx3 : h3.1[(pp + 1)]? = some (hx_a, .inr (0, 960)) := by rw [e4]; exact hx1
  have hd3 : h3.1[dd]? = some (hd_a, .inl (10, [some (dd + 1), none, none, none])) := by rw [e4]; exact hd1
  have hy3 : h3.1[(dd + 1)]? = some (hy_a, .inr (0, 960)) := by rw [e4]; exact hy1
  show fx_V l M_FP_writeTags (0, 0) Q 0 0 184 [some (.ref 0), some (.int (zI x1)), some (.int (zI x2)), some (.int (zI x3)), some (.int (zI x4)), some (.int (zI x5)), some (.int (zI x6))] [] h3
  refine fx_aload_n (i := 0) d_FP_writeTags_184 rfl rfl ?_
  refine fx_sipush (v := 262) d_FP_writeTags_185 rfl ?_
  refine fx_aload_n (i := 0) d_FP_writeTags_188 rfl rfl ?_
  refine fx_getR (q := pp) d_FP_writeTags_189 lk_FP_77 (at_0 (h := _) hS3) rfl rfl ?_
  refine fx_getI d_FP_writeTags_192 lk_FP_102 hp3 rfl ?_
  obtain ⟨hz5, H⟩ := H
  refine fx_if_eq (t := 202) (n := 198) d_FP_writeTags_195 hz5 (fun z6 => ?_) (fun z6 => ?_)
  · replace H := H.1 z6
    refine fx_iconst d_FP_writeTags_202 ?_
    exact fx_fewer [some (.ref 0), none, some (.int (zI x2)), some (.int (zI x3)), some (.int (zI x4)), some (.int (zI x5)), some (.int (zI x6))] ⟨rfl, rfl, rfl, rfl, rfl, rfl, trivial⟩ H
  · replace H := H.2 z6
    refine fx_iconst d_FP_writeTags_198 ?_
    refine fx_goto (n := 203) d_FP_writeTags_199 ?_
    exact fx_fewer [some (.ref 0), none, some (.int (zI x2)), some (.int (zI x3)), some (.int (zI x4)), some (.int (zI x5)), some (.int (zI x6))] ⟨rfl, rfl, rfl, rfl, rfl, rfl, trivial⟩ H

set_option maxRecDepth 100000 in
set_option maxHeartbeats 4000000 in
theorem w_FP_writeTags_203 {l : Launch} {Q : Option Value → fx_H → Prop} {h : fx_H}  {x2 : Int} {x3 : Int} {x4 : Int} {x5 : Int} {x6 : Int} {y0 : Int} {y1 : Int} {hp_a : Nat} {hx_a : Nat} {hd_a : Nat} {hy_a : Nat} {a : Nat → Nat} {pp dd : Nat} (hS : h.1 = fx_S0 a pp dd) (hp : h.1[pp]? = some (hp_a, .inl (10, [some (pp + 1), none, none, none]))) (hx : h.1[(pp + 1)]? = some (hx_a, .inr (0, 960))) (hd : h.1[dd]? = some (hd_a, .inl (10, [some (dd + 1), none, none, none]))) (hy : h.1[(dd + 1)]? = some (hy_a, .inr (0, 960)))
    (H : fx_Mt l M_FP_appendShortTag (0, 0) [.ref 0, .int (zI y1), .int (zI y0)] h (fun v h1 => v = none ∧ h1.1 = h.1 ∧ fx_Mt l M_FP_appendLongTag (0, 0) [.ref 0, .int (zI 273), .int (zI x3), .int (zI x4)] h1 (fun v h3 => v = none ∧ h3.1 = h1.1 ∧ fx_Mt l M_FP_appendShortTag (0, 0) [.ref 0, .int (zI 278), .int (zI x2)] h3 (fun v h5 => v = none ∧ h5.1 = h3.1 ∧ fx_Mt l M_FP_appendLongTag (0, 0) [.ref 0, .int (zI 279), .int (zI x3), .int (zI x5)] h5 (fun v h7 => v = none ∧ h7.1 = h5.1 ∧ zR x6 ∧ ((x6 = 0 → fx_Mt l M_BY_appendNumber (0, 0) [.ref 1, .int (zI 4), .int (zI 0)] h7 (fun v h11 => v = none ∧ h11.1 = h7.1 ∧ Q none h11)) ∧ (¬ (x6 = 0) → fx_Mt l M_FP_appendLongTag (0, 0) [.ref 0, .int (zI 292), .int (zI 1), .int (zI 1)] h7 (fun v h13 => v = none ∧ h13.1 = h7.1 ∧ (fx_V l M_FP_writeTags (0, 0) Q 0 0 248 [some (.ref 0), none, none, none, none, none, none] [] h13))))))))) :
    fx_V l M_FP_writeTags (0, 0) Q 0 0 203 [some (.ref 0), none, some (.int (zI x2)), some (.int (zI x3)), some (.int (zI x4)), some (.int (zI x5)), some (.int (zI x6))] [.int (zI y0), .int (zI y1), .ref 0] h := by
  refine fx_callV (M' := M_FP_appendShortTag) (B' := (0, 0)) (vs := [.int (zI y1), .int (zI y0)]) (rest := []) (c1 := 0) (s1 := 0) (n := 206) d_FP_writeTags_203 ca_FP_writeTags_266 (at_0 (h := _) hS) rfl rfl rfl ⟨by decide, by decide⟩ (Nat.le_of_ble_eq_true rfl) (Or.inl rfl) (fx_Mt.mono H fun v h1 hv => ?_)
  obtain ⟨rfl, e2, H⟩ := hv
  have hS1 := e2.trans hS
  have hp1 : h1.1[pp]? = some (hp_a, .inl (10, [some (pp + 1), none, none, none])) := by rw [e2]; exact hp
  have hx1 : h1.1[(pp + 1)]? = some (hx_a, .inr (0, 960)) := by rw [e2]; exact hx
  have hd1 : h1.1[dd]? = some (hd_a, .inl (10, [some (dd + 1), none, none, none])) := by rw [e2]; exact hd
  have hy1 : h1.1[(dd + 1)]? = some (hy_a, .inr (0, 960)) := by rw [e2]; exact hy
  show fx_V l M_FP_writeTags (0, 0) Q 0 0 206 [some (.ref 0), none, some (.int (zI x2)), some (.int (zI x3)), some (.int (zI x4)), some (.int (zI x5)), some (.int (zI x6))] [] h1
  refine fx_aload_n (i := 0) d_FP_writeTags_206 rfl rfl ?_
  refine fx_sipush (v := 273) d_FP_writeTags_207 rfl ?_
  refine fx_iload_n (i := 3) d_FP_writeTags_210 rfl rfl ?_
  refine fx_iload d_FP_writeTags_211 rfl ?_
  refine fx_callV (M' := M_FP_appendLongTag) (B' := (0, 0)) (vs := [.int (zI 273), .int (zI x3), .int (zI x4)]) (rest := []) (c1 := 0) (s1 := 0) (n := 216) d_FP_writeTags_213 ca_FP_writeTags_269 (at_0 (h := _) hS1) rfl rfl rfl ⟨by decide, by decide⟩ (Nat.le_of_ble_eq_true rfl) (Or.inl rfl) (fx_Mt.mono H fun v h3 hv => ?_)
  obtain ⟨rfl, e4, H⟩ := hv
  have hS3 := e4.trans hS1
  have hp3 : h3.1[pp]? = some (hp_a, .inl (10, [some (pp + 1), none, none, none])) := by rw [e4]; exact hp1
  have hx3 : h3.1[(pp + 1)]? = some (hx_a, .inr (0, 960)) := by rw [e4]; exact hx1
  have hd3 : h3.1[dd]? = some (hd_a, .inl (10, [some (dd + 1), none, none, none])) := by rw [e4]; exact hd1
  have hy3 : h3.1[(dd + 1)]? = some (hy_a, .inr (0, 960)) := by rw [e4]; exact hy1
  show fx_V l M_FP_writeTags (0, 0) Q 0 0 216 [some (.ref 0), none, some (.int (zI x2)), some (.int (zI x3)), some (.int (zI x4)), some (.int (zI x5)), some (.int (zI x6))] [] h3
  refine fx_aload_n (i := 0) d_FP_writeTags_216 rfl rfl ?_
  refine fx_sipush (v := 278) d_FP_writeTags_217 rfl ?_
  refine fx_iload_n (i := 2) d_FP_writeTags_220 rfl rfl ?_
  refine fx_callV (M' := M_FP_appendShortTag) (B' := (0, 0)) (vs := [.int (zI 278), .int (zI x2)]) (rest := []) (c1 := 0) (s1 := 0) (n := 224) d_FP_writeTags_221 ca_FP_writeTags_266 (at_0 (h := _) hS3) rfl rfl rfl ⟨by decide, by decide⟩ (Nat.le_of_ble_eq_true rfl) (Or.inl rfl) (fx_Mt.mono H fun v h5 hv => ?_)
  obtain ⟨rfl, e6, H⟩ := hv
  have hS5 := e6.trans hS3
  have hp5 : h5.1[pp]? = some (hp_a, .inl (10, [some (pp + 1), none, none, none])) := by rw [e6]; exact hp3
  have hx5 : h5.1[(pp + 1)]? = some (hx_a, .inr (0, 960)) := by rw [e6]; exact hx3
  have hd5 : h5.1[dd]? = some (hd_a, .inl (10, [some (dd + 1), none, none, none])) := by rw [e6]; exact hd3
  have hy5 : h5.1[(dd + 1)]? = some (hy_a, .inr (0, 960)) := by rw [e6]; exact hy3
  show fx_V l M_FP_writeTags (0, 0) Q 0 0 224 [some (.ref 0), none, some (.int (zI x2)), some (.int (zI x3)), some (.int (zI x4)), some (.int (zI x5)), some (.int (zI x6))] [] h5
  refine fx_aload_n (i := 0) d_FP_writeTags_224 rfl rfl ?_
  refine fx_sipush (v := 279) d_FP_writeTags_225 rfl ?_
  refine fx_iload_n (i := 3) d_FP_writeTags_228 rfl rfl ?_
  refine fx_iload d_FP_writeTags_229 rfl ?_
  refine fx_callV (M' := M_FP_appendLongTag) (B' := (0, 0)) (vs := [.int (zI 279), .int (zI x3), .int (zI x5)]) (rest := []) (c1 := 0) (s1 := 0) (n := 234) d_FP_writeTags_231 ca_FP_writeTags_269 (at_0 (h := _) hS5) rfl rfl rfl ⟨by decide, by decide⟩ (Nat.le_of_ble_eq_true rfl) (Or.inl rfl) (fx_Mt.mono H fun v h7 hv => ?_)
  obtain ⟨rfl, e8, H⟩ := hv
  have hS7 := e8.trans hS5
  have hp7 : h7.1[pp]? = some (hp_a, .inl (10, [some (pp + 1), none, none, none])) := by rw [e8]; exact hp5
  have hx7 : h7.1[(pp + 1)]? = some (hx_a, .inr (0, 960)) := by rw [e8]; exact hx5
  have hd7 : h7.1[dd]? = some (hd_a, .inl (10, [some (dd + 1), none, none, none])) := by rw [e8]; exact hd5
  have hy7 : h7.1[(dd + 1)]? = some (hy_a, .inr (0, 960)) := by rw [e8]; exact hy5
  show fx_V l M_FP_writeTags (0, 0) Q 0 0 234 [some (.ref 0), none, some (.int (zI x2)), some (.int (zI x3)), some (.int (zI x4)), some (.int (zI x5)), some (.int (zI x6))] [] h7
  refine fx_iload d_FP_writeTags_234 rfl ?_
  obtain ⟨hz9, H⟩ := H
  refine fx_if_eq (t := 248) (n := 239) d_FP_writeTags_236 hz9 (fun z10 => ?_) (fun z10 => ?_)
  · replace H := H.1 z10
    refine fx_aload_n (i := 0) d_FP_writeTags_248 rfl rfl ?_
    refine fx_getR (q := 1) d_FP_writeTags_249 lk_FP_20 (at_0 (h := _) hS7) rfl rfl ?_
    refine fx_iconst d_FP_writeTags_252 ?_
    refine fx_iconst d_FP_writeTags_253 ?_
    refine fx_callV (M' := M_BY_appendNumber) (B' := (0, 0)) (vs := [.int (zI 4), .int (zI 0)]) (rest := []) (c1 := 0) (s1 := 0) (n := 257) d_FP_writeTags_254 ca_FP_writeTags_263 (at_1 (h := _) hS7) rfl rfl rfl ⟨by decide, by decide⟩ (Nat.le_of_ble_eq_true rfl) (Or.inl rfl) (fx_Mt.mono H fun v h11 hv => ?_)
    obtain ⟨rfl, e12, H⟩ := hv
    have hS11 := e12.trans hS7
    have hp11 : h11.1[pp]? = some (hp_a, .inl (10, [some (pp + 1), none, none, none])) := by rw [e12]; exact hp7
    have hx11 : h11.1[(pp + 1)]? = some (hx_a, .inr (0, 960)) := by rw [e12]; exact hx7
    have hd11 : h11.1[dd]? = some (hd_a, .inl (10, [some (dd + 1), none, none, none])) := by rw [e12]; exact hd7
    have hy11 : h11.1[(dd + 1)]? = some (hy_a, .inr (0, 960)) := by rw [e12]; exact hy7
    show fx_V l M_FP_writeTags (0, 0) Q 0 0 257 [some (.ref 0), none, some (.int (zI x2)), some (.int (zI x3)), some (.int (zI x4)), some (.int (zI x5)), some (.int (zI x6))] [] h11
    exact fx_end none ⟨rfl, d_FP_writeTags_257⟩ (Nat.le_refl _) (Nat.le_refl _) rfl H
  · replace H := H.2 z10
    refine fx_aload_n (i := 0) d_FP_writeTags_239 rfl rfl ?_
    refine fx_sipush (v := 292) d_FP_writeTags_240 rfl ?_
    refine fx_iconst d_FP_writeTags_243 ?_
    refine fx_iconst d_FP_writeTags_244 ?_
    refine fx_callV (M' := M_FP_appendLongTag) (B' := (0, 0)) (vs := [.int (zI 292), .int (zI 1), .int (zI 1)]) (rest := []) (c1 := 0) (s1 := 0) (n := 248) d_FP_writeTags_245 ca_FP_writeTags_269 (at_0 (h := _) hS7) rfl rfl rfl ⟨by decide, by decide⟩ (Nat.le_of_ble_eq_true rfl) (Or.inl rfl) (fx_Mt.mono H fun v h13 hv => ?_)
    obtain ⟨rfl, e14, H⟩ := hv
    have hS13 := e14.trans hS7
    have hp13 : h13.1[pp]? = some (hp_a, .inl (10, [some (pp + 1), none, none, none])) := by rw [e14]; exact hp7
    have hx13 : h13.1[(pp + 1)]? = some (hx_a, .inr (0, 960)) := by rw [e14]; exact hx7
    have hd13 : h13.1[dd]? = some (hd_a, .inl (10, [some (dd + 1), none, none, none])) := by rw [e14]; exact hd7
    have hy13 : h13.1[(dd + 1)]? = some (hy_a, .inr (0, 960)) := by rw [e14]; exact hy7
    show fx_V l M_FP_writeTags (0, 0) Q 0 0 248 [some (.ref 0), none, some (.int (zI x2)), some (.int (zI x3)), some (.int (zI x4)), some (.int (zI x5)), some (.int (zI x6))] [] h13
    exact fx_fewer [some (.ref 0), none, none, none, none, none, none] ⟨rfl, trivial⟩ H

set_option maxRecDepth 100000 in
set_option maxHeartbeats 4000000 in
theorem w_FP_writeTags_248 {l : Launch} {Q : Option Value → fx_H → Prop} {h : fx_H}   {hp_a : Nat} {hx_a : Nat} {hd_a : Nat} {hy_a : Nat} {a : Nat → Nat} {pp dd : Nat} (hS : h.1 = fx_S0 a pp dd) (hp : h.1[pp]? = some (hp_a, .inl (10, [some (pp + 1), none, none, none]))) (hx : h.1[(pp + 1)]? = some (hx_a, .inr (0, 960))) (hd : h.1[dd]? = some (hd_a, .inl (10, [some (dd + 1), none, none, none]))) (hy : h.1[(dd + 1)]? = some (hy_a, .inr (0, 960)))
    (H : fx_Mt l M_BY_appendNumber (0, 0) [.ref 1, .int (zI 4), .int (zI 0)] h (fun v h1 => v = none ∧ h1.1 = h.1 ∧ Q none h1)) :
    fx_V l M_FP_writeTags (0, 0) Q 0 0 248 [some (.ref 0), none, none, none, none, none, none] [] h := by
  refine fx_aload_n (i := 0) d_FP_writeTags_248 rfl rfl ?_
  refine fx_getR (q := 1) d_FP_writeTags_249 lk_FP_20 (at_0 (h := _) hS) rfl rfl ?_
  refine fx_iconst d_FP_writeTags_252 ?_
  refine fx_iconst d_FP_writeTags_253 ?_
  refine fx_callV (M' := M_BY_appendNumber) (B' := (0, 0)) (vs := [.int (zI 4), .int (zI 0)]) (rest := []) (c1 := 0) (s1 := 0) (n := 257) d_FP_writeTags_254 ca_FP_writeTags_263 (at_1 (h := _) hS) rfl rfl rfl ⟨by decide, by decide⟩ (Nat.le_of_ble_eq_true rfl) (Or.inl rfl) (fx_Mt.mono H fun v h1 hv => ?_)
  obtain ⟨rfl, e2, H⟩ := hv
  have hS1 := e2.trans hS
  have hp1 : h1.1[pp]? = some (hp_a, .inl (10, [some (pp + 1), none, none, none])) := by rw [e2]; exact hp
  have hx1 : h1.1[(pp + 1)]? = some (hx_a, .inr (0, 960)) := by rw [e2]; exact hx
  have hd1 : h1.1[dd]? = some (hd_a, .inl (10, [some (dd + 1), none, none, none])) := by rw [e2]; exact hd
  have hy1 : h1.1[(dd + 1)]? = some (hy_a, .inr (0, 960)) := by rw [e2]; exact hy
  show fx_V l M_FP_writeTags (0, 0) Q 0 0 257 [some (.ref 0), none, none, none, none, none, none] [] h1
  exact fx_end none ⟨rfl, d_FP_writeTags_257⟩ (Nat.le_refl _) (Nat.le_refl _) rfl H

set_option maxRecDepth 100000 in
set_option maxHeartbeats 4000000 in
theorem e_FP_appendLongs_25 {l : Launch} {Q : Option Value → fx_H → Prop} {h : fx_H}  {n : Int} {hp_a : Nat} {hx_a : Nat} {hd_a : Nat} {hy_a : Nat} {a : Nat → Nat} {pp dd : Nat} (hS : h.1 = fx_S0 a pp dd) (hp : h.1[pp]? = some (hp_a, .inl (10, [some (pp + 1), none, none, none]))) (hx : h.1[(pp + 1)]? = some (hx_a, .inr (0, 960))) (hd : h.1[dd]? = some (hd_a, .inl (10, [some (dd + 1), none, none, none]))) (hy : h.1[(dd + 1)]? = some (hy_a, .inr (0, 960)))
    (H : (fx_V l M_FP_appendLongs (0, 0) Q 0 0 11 [some (.ref 0), some (.ref 25), some (.int (zI n)), some (.int (zI (h.2.1 1 1))), some (.int (zI 0))] [] h)) :
    fx_Mt l M_FP_appendLongs (0, 0) [.ref 0, .ref 25, .int (zI n)] h Q := by
  refine fx_entry (ls := [some (.ref 0), some (.ref 25), some (.int (zI n)), none, none]) (by decide) (Nat.le_of_ble_eq_true rfl) rfl ?_
  refine fx_aload_n (i := 0) d_FP_appendLongs_0 rfl rfl ?_
  refine fx_getR (q := 1) d_FP_appendLongs_1 lk_FP_20 (at_0 (h := _) hS) rfl rfl ?_
  refine fx_getI d_FP_appendLongs_4 lk_FP_160 (at_1 (h := _) hS) rfl ?_
  refine fx_istore_n (i := 3) (ls2 := [some (.ref 0), some (.ref 25), some (.int (zI n)), some (.int (zI (h.2.1 1 1))), none]) d_FP_appendLongs_7 rfl (by decide) rfl ?_
  refine fx_iconst d_FP_appendLongs_8 ?_
  refine fx_istore (ls2 := [some (.ref 0), some (.ref 25), some (.int (zI n)), some (.int (zI (h.2.1 1 1))), some (.int (zI 0))]) d_FP_appendLongs_9 (by decide) rfl ?_
  exact H

set_option maxRecDepth 100000 in
set_option maxHeartbeats 4000000 in
theorem w_FP_appendLongs_11_25 {l : Launch} {Q : Option Value → fx_H → Prop} {h : fx_H}  {x2 : Int} {x3 : Int} {x4 : Int} {hp_a : Nat} {hx_a : Nat} {hd_a : Nat} {hy_a : Nat} {a : Nat → Nat} {pp dd : Nat} (hS : h.1 = fx_S0 a pp dd) (hp : h.1[pp]? = some (hp_a, .inl (10, [some (pp + 1), none, none, none]))) (hx : h.1[(pp + 1)]? = some (hx_a, .inr (0, 960))) (hd : h.1[dd]? = some (hd_a, .inl (10, [some (dd + 1), none, none, none]))) (hy : h.1[(dd + 1)]? = some (hy_a, .inr (0, 960)))
    (H : zR x4 ∧ zR x2 ∧ ((x2 ≤ x4 → Q (some (.int (zI x3))) h) ∧ (¬ (x2 ≤ x4) → ((24 ≤ x4 → Q (some (.int (zI x3))) h) ∧ (¬ (24 ≤ x4) → 0 ≤ x4 ∧ x4 < 24 ∧ fx_Mt l M_BY_appendNumber (0, 0) [.ref 1, .int (zI 4), .int (zI (h.2.2.1 25 (x4.toNat)))] h (fun v h7 => v = none ∧ h7.1 = h.1 ∧ (fx_V l M_FP_appendLongs (0, 0) Q 0 0 11 [some (.ref 0), some (.ref 25), some (.int (zI x2)), some (.int (zI x3)), some (.int (zI (x4 + 1)))] [] h7))))))) :
    fx_V l M_FP_appendLongs (0, 0) Q 0 0 11 [some (.ref 0), some (.ref 25), some (.int (zI x2)), some (.int (zI x3)), some (.int (zI x4))] [] h := by
  refine fx_iload d_FP_appendLongs_11 rfl ?_
  refine fx_iload_n (i := 2) d_FP_appendLongs_13 rfl rfl ?_
  obtain ⟨hz1, H⟩ := H
  obtain ⟨hz2, H⟩ := H
  refine fx_icmp_ge (t := 42) (n := 17) d_FP_appendLongs_14 hz1 hz2 (fun z3 => ?_) (fun z3 => ?_)
  · replace H := H.1 z3
    refine fx_iload_n (i := 3) d_FP_appendLongs_42 rfl rfl ?_
    exact fx_end (some (.int (zI x3))) ⟨⟨_, rfl, rfl⟩, d_FP_appendLongs_43⟩ (Nat.le_refl _) (Nat.le_refl _) rfl H
  · replace H := H.2 z3
    refine fx_iload d_FP_appendLongs_17 rfl ?_
    refine fx_aload_n (i := 1) d_FP_appendLongs_19 rfl rfl ?_
    refine fx_alen (v := 24) d_FP_appendLongs_20 (at_25 (h := _) hS) rfl ?_
    refine fx_icmp_ge (t := 42) (n := 24) d_FP_appendLongs_21 hz1 (show zR 24 by decide) (fun z4 => ?_) (fun z4 => ?_)
    · replace H := H.1 z4
      refine fx_iload_n (i := 3) d_FP_appendLongs_42 rfl rfl ?_
      exact fx_end (some (.int (zI x3))) ⟨⟨_, rfl, rfl⟩, d_FP_appendLongs_43⟩ (Nat.le_refl _) (Nat.le_refl _) rfl H
    · replace H := H.2 z4
      refine fx_aload_n (i := 0) d_FP_appendLongs_24 rfl rfl ?_
      refine fx_getR (q := 1) d_FP_appendLongs_25 lk_FP_20 (at_0 (h := _) hS) rfl rfl ?_
      refine fx_iconst d_FP_appendLongs_28 ?_
      refine fx_aload_n (i := 1) d_FP_appendLongs_29 rfl rfl ?_
      refine fx_iload d_FP_appendLongs_30 rfl ?_
      obtain ⟨hn5, H⟩ := H
      obtain ⟨hn6, H⟩ := H
      refine fx_iald d_FP_appendLongs_32 (at_25 (h := _) hS) hn5 hn6 (by decide) ?_
      refine fx_callV (M' := M_BY_appendNumber) (B' := (0, 0)) (vs := [.int (zI 4), .int (zI (h.2.2.1 25 (x4.toNat)))]) (rest := []) (c1 := 0) (s1 := 0) (n := 36) d_FP_appendLongs_33 ca_FP_appendLongs_263 (at_1 (h := _) hS) rfl rfl rfl ⟨by decide, by decide⟩ (Nat.le_of_ble_eq_true rfl) (Or.inl rfl) (fx_Mt.mono H fun v h7 hv => ?_)
      obtain ⟨rfl, e8, H⟩ := hv
      have hS7 := e8.trans hS
      have hp7 : h7.1[pp]? = some (hp_a, .inl (10, [some (pp + 1), none, none, none])) := by rw [e8]; exact hp
      have hx7 : h7.1[(pp + 1)]? = some (hx_a, .inr (0, 960)) := by rw [e8]; exact hx
      have hd7 : h7.1[dd]? = some (hd_a, .inl (10, [some (dd + 1), none, none, none])) := by rw [e8]; exact hd
      have hy7 : h7.1[(dd + 1)]? = some (hy_a, .inr (0, 960)) := by rw [e8]; exact hy
      show fx_V l M_FP_appendLongs (0, 0) Q 0 0 36 [some (.ref 0), some (.ref 25), some (.int (zI x2)), some (.int (zI x3)), some (.int (zI x4))] [] h7
      refine fx_iinc (v := x4 + 1) (ls2 := [some (.ref 0), some (.ref 25), some (.int (zI x2)), some (.int (zI x3)), some (.int (zI (x4 + 1)))]) d_FP_appendLongs_36 rfl rfl (by decide) rfl ?_
      refine fx_goto (n := 11) d_FP_appendLongs_39 ?_
      exact H

set_option maxRecDepth 100000 in
set_option maxHeartbeats 4000000 in
theorem e_FP_appendLongs_26 {l : Launch} {Q : Option Value → fx_H → Prop} {h : fx_H}  {n : Int} {hp_a : Nat} {hx_a : Nat} {hd_a : Nat} {hy_a : Nat} {a : Nat → Nat} {pp dd : Nat} (hS : h.1 = fx_S0 a pp dd) (hp : h.1[pp]? = some (hp_a, .inl (10, [some (pp + 1), none, none, none]))) (hx : h.1[(pp + 1)]? = some (hx_a, .inr (0, 960))) (hd : h.1[dd]? = some (hd_a, .inl (10, [some (dd + 1), none, none, none]))) (hy : h.1[(dd + 1)]? = some (hy_a, .inr (0, 960)))
    (H : (fx_V l M_FP_appendLongs (0, 0) Q 0 0 11 [some (.ref 0), some (.ref 26), some (.int (zI n)), some (.int (zI (h.2.1 1 1))), some (.int (zI 0))] [] h)) :
    fx_Mt l M_FP_appendLongs (0, 0) [.ref 0, .ref 26, .int (zI n)] h Q := by
  refine fx_entry (ls := [some (.ref 0), some (.ref 26), some (.int (zI n)), none, none]) (by decide) (Nat.le_of_ble_eq_true rfl) rfl ?_
  refine fx_aload_n (i := 0) d_FP_appendLongs_0 rfl rfl ?_
  refine fx_getR (q := 1) d_FP_appendLongs_1 lk_FP_20 (at_0 (h := _) hS) rfl rfl ?_
  refine fx_getI d_FP_appendLongs_4 lk_FP_160 (at_1 (h := _) hS) rfl ?_
  refine fx_istore_n (i := 3) (ls2 := [some (.ref 0), some (.ref 26), some (.int (zI n)), some (.int (zI (h.2.1 1 1))), none]) d_FP_appendLongs_7 rfl (by decide) rfl ?_
  refine fx_iconst d_FP_appendLongs_8 ?_
  refine fx_istore (ls2 := [some (.ref 0), some (.ref 26), some (.int (zI n)), some (.int (zI (h.2.1 1 1))), some (.int (zI 0))]) d_FP_appendLongs_9 (by decide) rfl ?_
  exact H

set_option maxRecDepth 100000 in
set_option maxHeartbeats 4000000 in
theorem w_FP_appendLongs_11_26 {l : Launch} {Q : Option Value → fx_H → Prop} {h : fx_H}  {x2 : Int} {x3 : Int} {x4 : Int} {hp_a : Nat} {hx_a : Nat} {hd_a : Nat} {hy_a : Nat} {a : Nat → Nat} {pp dd : Nat} (hS : h.1 = fx_S0 a pp dd) (hp : h.1[pp]? = some (hp_a, .inl (10, [some (pp + 1), none, none, none]))) (hx : h.1[(pp + 1)]? = some (hx_a, .inr (0, 960))) (hd : h.1[dd]? = some (hd_a, .inl (10, [some (dd + 1), none, none, none]))) (hy : h.1[(dd + 1)]? = some (hy_a, .inr (0, 960)))
    (H : zR x4 ∧ zR x2 ∧ ((x2 ≤ x4 → Q (some (.int (zI x3))) h) ∧ (¬ (x2 ≤ x4) → ((24 ≤ x4 → Q (some (.int (zI x3))) h) ∧ (¬ (24 ≤ x4) → 0 ≤ x4 ∧ x4 < 24 ∧ fx_Mt l M_BY_appendNumber (0, 0) [.ref 1, .int (zI 4), .int (zI (h.2.2.1 26 (x4.toNat)))] h (fun v h7 => v = none ∧ h7.1 = h.1 ∧ (fx_V l M_FP_appendLongs (0, 0) Q 0 0 11 [some (.ref 0), some (.ref 26), some (.int (zI x2)), some (.int (zI x3)), some (.int (zI (x4 + 1)))] [] h7))))))) :
    fx_V l M_FP_appendLongs (0, 0) Q 0 0 11 [some (.ref 0), some (.ref 26), some (.int (zI x2)), some (.int (zI x3)), some (.int (zI x4))] [] h := by
  refine fx_iload d_FP_appendLongs_11 rfl ?_
  refine fx_iload_n (i := 2) d_FP_appendLongs_13 rfl rfl ?_
  obtain ⟨hz1, H⟩ := H
  obtain ⟨hz2, H⟩ := H
  refine fx_icmp_ge (t := 42) (n := 17) d_FP_appendLongs_14 hz1 hz2 (fun z3 => ?_) (fun z3 => ?_)
  · replace H := H.1 z3
    refine fx_iload_n (i := 3) d_FP_appendLongs_42 rfl rfl ?_
    exact fx_end (some (.int (zI x3))) ⟨⟨_, rfl, rfl⟩, d_FP_appendLongs_43⟩ (Nat.le_refl _) (Nat.le_refl _) rfl H
  · replace H := H.2 z3
    refine fx_iload d_FP_appendLongs_17 rfl ?_
    refine fx_aload_n (i := 1) d_FP_appendLongs_19 rfl rfl ?_
    refine fx_alen (v := 24) d_FP_appendLongs_20 (at_26 (h := _) hS) rfl ?_
    refine fx_icmp_ge (t := 42) (n := 24) d_FP_appendLongs_21 hz1 (show zR 24 by decide) (fun z4 => ?_) (fun z4 => ?_)
    · replace H := H.1 z4
      refine fx_iload_n (i := 3) d_FP_appendLongs_42 rfl rfl ?_
      exact fx_end (some (.int (zI x3))) ⟨⟨_, rfl, rfl⟩, d_FP_appendLongs_43⟩ (Nat.le_refl _) (Nat.le_refl _) rfl H
    · replace H := H.2 z4
      refine fx_aload_n (i := 0) d_FP_appendLongs_24 rfl rfl ?_
      refine fx_getR (q := 1) d_FP_appendLongs_25 lk_FP_20 (at_0 (h := _) hS) rfl rfl ?_
      refine fx_iconst d_FP_appendLongs_28 ?_
      refine fx_aload_n (i := 1) d_FP_appendLongs_29 rfl rfl ?_
      refine fx_iload d_FP_appendLongs_30 rfl ?_
      obtain ⟨hn5, H⟩ := H
      obtain ⟨hn6, H⟩ := H
      refine fx_iald d_FP_appendLongs_32 (at_26 (h := _) hS) hn5 hn6 (by decide) ?_
      refine fx_callV (M' := M_BY_appendNumber) (B' := (0, 0)) (vs := [.int (zI 4), .int (zI (h.2.2.1 26 (x4.toNat)))]) (rest := []) (c1 := 0) (s1 := 0) (n := 36) d_FP_appendLongs_33 ca_FP_appendLongs_263 (at_1 (h := _) hS) rfl rfl rfl ⟨by decide, by decide⟩ (Nat.le_of_ble_eq_true rfl) (Or.inl rfl) (fx_Mt.mono H fun v h7 hv => ?_)
      obtain ⟨rfl, e8, H⟩ := hv
      have hS7 := e8.trans hS
      have hp7 : h7.1[pp]? = some (hp_a, .inl (10, [some (pp + 1), none, none, none])) := by rw [e8]; exact hp
      have hx7 : h7.1[(pp + 1)]? = some (hx_a, .inr (0, 960)) := by rw [e8]; exact hx
      have hd7 : h7.1[dd]? = some (hd_a, .inl (10, [some (dd + 1), none, none, none])) := by rw [e8]; exact hd
      have hy7 : h7.1[(dd + 1)]? = some (hy_a, .inr (0, 960)) := by rw [e8]; exact hy
      show fx_V l M_FP_appendLongs (0, 0) Q 0 0 36 [some (.ref 0), some (.ref 26), some (.int (zI x2)), some (.int (zI x3)), some (.int (zI x4))] [] h7
      refine fx_iinc (v := x4 + 1) (ls2 := [some (.ref 0), some (.ref 26), some (.int (zI x2)), some (.int (zI x3)), some (.int (zI (x4 + 1)))]) d_FP_appendLongs_36 rfl rfl (by decide) rfl ?_
      refine fx_goto (n := 11) d_FP_appendLongs_39 ?_
      exact H

set_option maxRecDepth 100000 in
set_option maxHeartbeats 4000000 in
theorem e_FP_appendShortTag {l : Launch} {Q : Option Value → fx_H → Prop} {h : fx_H}  {n : Int} {u : Int} {hp_a : Nat} {hx_a : Nat} {hd_a : Nat} {hy_a : Nat} {a : Nat → Nat} {pp dd : Nat} (hS : h.1 = fx_S0 a pp dd) (hp : h.1[pp]? = some (hp_a, .inl (10, [some (pp + 1), none, none, none]))) (hx : h.1[(pp + 1)]? = some (hx_a, .inr (0, 960))) (hd : h.1[dd]? = some (hd_a, .inl (10, [some (dd + 1), none, none, none]))) (hy : h.1[(dd + 1)]? = some (hy_a, .inr (0, 960)))
    (H : fx_Mt l M_BY_appendNumber (0, 0) [.ref 1, .int (zI 2), .int (zI n)] h (fun v h1 => v = none ∧ h1.1 = h.1 ∧ fx_Mt l M_BY_appendNumber (0, 0) [.ref 1, .int (zI 2), .int (zI 3)] h1 (fun v h3 => v = none ∧ h3.1 = h1.1 ∧ fx_Mt l M_BY_appendNumber (0, 0) [.ref 1, .int (zI 4), .int (zI 1)] h3 (fun v h5 => v = none ∧ h5.1 = h3.1 ∧ fx_Mt l M_BY_appendNumber (0, 0) [.ref 1, .int (zI 2), .int (zI u)] h5 (fun v h7 => v = none ∧ h7.1 = h5.1 ∧ fx_Mt l M_BY_appendNumber (0, 0) [.ref 1, .int (zI 2), .int (zI 0)] h7 (fun v h9 => v = none ∧ h9.1 = h7.1 ∧ Q none h9)))))) :
    fx_Mt l M_FP_appendShortTag (0, 0) [.ref 0, .int (zI n), .int (zI u)] h Q := by
  refine fx_entry (ls := [some (.ref 0), some (.int (zI n)), some (.int (zI u))]) (by decide) (Nat.le_of_ble_eq_true rfl) rfl ?_
  refine fx_aload_n (i := 0) d_FP_appendShortTag_0 rfl rfl ?_
  refine fx_getR (q := 1) d_FP_appendShortTag_1 lk_FP_20 (at_0 (h := _) hS) rfl rfl ?_
  refine fx_iconst d_FP_appendShortTag_4 ?_
  refine fx_iload_n (i := 1) d_FP_appendShortTag_5 rfl rfl ?_
  refine fx_callV (M' := M_BY_appendNumber) (B' := (0, 0)) (vs := [.int (zI 2), .int (zI n)]) (rest := []) (c1 := 0) (s1 := 0) (n := 9) d_FP_appendShortTag_6 ca_FP_appendShortTag_263 (at_1 (h := _) hS) rfl rfl rfl ⟨by decide, by decide⟩ (Nat.le_of_ble_eq_true rfl) (Or.inl rfl) (fx_Mt.mono H fun v h1 hv => ?_)
  obtain ⟨rfl, e2, H⟩ := hv
  have hS1 := e2.trans hS
  have hp1 : h1.1[pp]? = some (hp_a, .inl (10, [some (pp + 1), none, none, none])) := by rw [e2]; exact hp
  have hx1 : h1.1[(pp + 1)]? = some (hx_a, .inr (0, 960)) := by rw [e2]; exact hx
  have hd1 : h1.1[dd]? = some (hd_a, .inl (10, [some (dd + 1), none, none, none])) := by rw [e2]; exact hd
  have hy1 : h1.1[(dd + 1)]? = some (hy_a, .inr (0, 960)) := by rw [e2]; exact hy
  show fx_V l M_FP_appendShortTag (0, 0) Q 0 0 9 [some (.ref 0), some (.int (zI n)), some (.int (zI u))] [] h1
  refine fx_aload_n (i := 0) d_FP_appendShortTag_9 rfl rfl ?_
  refine fx_getR (q := 1) d_FP_appendShortTag_10 lk_FP_20 (at_0 (h := _) hS1) rfl rfl ?_
  refine fx_iconst d_FP_appendShortTag_13 ?_
  refine fx_iconst d_FP_appendShortTag_14 ?_
  refine fx_callV (M' := M_BY_appendNumber) (B' := (0, 0)) (vs := [.int (zI 2), .int (zI 3)]) (rest := []) (c1 := 0) (s1 := 0) (n := 18) d_FP_appendShortTag_15 ca_FP_appendShortTag_263 (at_1 (h := _) hS1) rfl rfl rfl ⟨by decide, by decide⟩ (Nat.le_of_ble_eq_true rfl) (Or.inl rfl) (fx_Mt.mono H fun v h3 hv => ?_)
  obtain ⟨rfl, e4, H⟩ := hv
  have hS3 := e4.trans hS1
  have hp3 : h3.1[pp]? = some (hp_a, .inl (10, [some (pp + 1), none, none, none])) := by rw [e4]; exact hp1
  have hx3 : h3.1[(pp + 1)]? = some (hx_a, .inr (0, 960)) := by rw [e4]; exact hx1
  have hd3 : h3.1[dd]? = some (hd_a, .inl (10, [some (dd + 1), none, none, none])) := by rw [e4]; exact hd1
  have hy3 : h3.1[(dd + 1)]? = some (hy_a, .inr (0, 960)) := by rw [e4]; exact hy1
  show fx_V l M_FP_appendShortTag (0, 0) Q 0 0 18 [some (.ref 0), some (.int (zI n)), some (.int (zI u))] [] h3
  refine fx_aload_n (i := 0) d_FP_appendShortTag_18 rfl rfl ?_
  refine fx_getR (q := 1) d_FP_appendShortTag_19 lk_FP_20 (at_0 (h := _) hS3) rfl rfl ?_
  refine fx_iconst d_FP_appendShortTag_22 ?_
  refine fx_iconst d_FP_appendShortTag_23 ?_
  refine fx_callV (M' := M_BY_appendNumber) (B' := (0, 0)) (vs := [.int (zI 4), .int (zI 1)]) (rest := []) (c1 := 0) (s1 := 0) (n := 27) d_FP_appendShortTag_24 ca_FP_appendShortTag_263 (at_1 (h := _) hS3) rfl rfl rfl ⟨by decide, by decide⟩ (Nat.le_of_ble_eq_true rfl) (Or.inl rfl) (fx_Mt.mono H fun v h5 hv => ?_)
  obtain ⟨rfl, e6, H⟩ := hv
  have hS5 := e6.trans hS3
  have hp5 : h5.1[pp]? = some (hp_a, .inl (10, [some (pp + 1), none, none, none])) := by rw [e6]; exact hp3
  have hx5 : h5.1[(pp + 1)]? = some (hx_a, .inr (0, 960)) := by rw [e6]; exact hx3
  have hd5 : h5.1[dd]? = some (hd_a, .inl (10, [some (dd + 1), none, none, none])) := by rw [e6]; exact hd3
  have hy5 : h5.1[(dd + 1)]? = some (hy_a, .inr (0, 960)) := by rw [e6]; exact hy3
  show fx_V l M_FP_appendShortTag (0, 0) Q 0 0 27 [some (.ref 0), some (.int (zI n)), some (.int (zI u))] [] h5
  refine fx_aload_n (i := 0) d_FP_appendShortTag_27 rfl rfl ?_
  refine fx_getR (q := 1) d_FP_appendShortTag_28 lk_FP_20 (at_0 (h := _) hS5) rfl rfl ?_
  refine fx_iconst d_FP_appendShortTag_31 ?_
  refine fx_iload_n (i := 2) d_FP_appendShortTag_32 rfl rfl ?_
  refine fx_callV (M' := M_BY_appendNumber) (B' := (0, 0)) (vs := [.int (zI 2), .int (zI u)]) (rest := []) (c1 := 0) (s1 := 0) (n := 36) d_FP_appendShortTag_33 ca_FP_appendShortTag_263 (at_1 (h := _) hS5) rfl rfl rfl ⟨by decide, by decide⟩ (Nat.le_of_ble_eq_true rfl) (Or.inl rfl) (fx_Mt.mono H fun v h7 hv => ?_)
  obtain ⟨rfl, e8, H⟩ := hv
  have hS7 := e8.trans hS5
  have hp7 : h7.1[pp]? = some (hp_a, .inl (10, [some (pp + 1), none, none, none])) := by rw [e8]; exact hp5
  have hx7 : h7.1[(pp + 1)]? = some (hx_a, .inr (0, 960)) := by rw [e8]; exact hx5
  have hd7 : h7.1[dd]? = some (hd_a, .inl (10, [some (dd + 1), none, none, none])) := by rw [e8]; exact hd5
  have hy7 : h7.1[(dd + 1)]? = some (hy_a, .inr (0, 960)) := by rw [e8]; exact hy5
  show fx_V l M_FP_appendShortTag (0, 0) Q 0 0 36 [some (.ref 0), some (.int (zI n)), some (.int (zI u))] [] h7
  refine fx_aload_n (i := 0) d_FP_appendShortTag_36 rfl rfl ?_
  refine fx_getR (q := 1) d_FP_appendShortTag_37 lk_FP_20 (at_0 (h := _) hS7) rfl rfl ?_
  refine fx_iconst d_FP_appendShortTag_40 ?_
  refine fx_iconst d_FP_appendShortTag_41 ?_
  refine fx_callV (M' := M_BY_appendNumber) (B' := (0, 0)) (vs := [.int (zI 2), .int (zI 0)]) (rest := []) (c1 := 0) (s1 := 0) (n := 45) d_FP_appendShortTag_42 ca_FP_appendShortTag_263 (at_1 (h := _) hS7) rfl rfl rfl ⟨by decide, by decide⟩ (Nat.le_of_ble_eq_true rfl) (Or.inl rfl) (fx_Mt.mono H fun v h9 hv => ?_)
  obtain ⟨rfl, e10, H⟩ := hv
  have hS9 := e10.trans hS7
  have hp9 : h9.1[pp]? = some (hp_a, .inl (10, [some (pp + 1), none, none, none])) := by rw [e10]; exact hp7
  have hx9 : h9.1[(pp + 1)]? = some (hx_a, .inr (0, 960)) := by rw [e10]; exact hx7
  have hd9 : h9.1[dd]? = some (hd_a, .inl (10, [some (dd + 1), none, none, none])) := by rw [e10]; exact hd7
  have hy9 : h9.1[(dd + 1)]? = some (hy_a, .inr (0, 960)) := by rw [e10]; exact hy7
  show fx_V l M_FP_appendShortTag (0, 0) Q 0 0 45 [some (.ref 0), some (.int (zI n)), some (.int (zI u))] [] h9
  exact fx_end none ⟨rfl, d_FP_appendShortTag_45⟩ (Nat.le_refl _) (Nat.le_refl _) rfl H

set_option maxRecDepth 100000 in
set_option maxHeartbeats 4000000 in
theorem e_FP_appendLongTag {l : Launch} {Q : Option Value → fx_H → Prop} {h : fx_H}  {n : Int} {m : Int} {u : Int} {hp_a : Nat} {hx_a : Nat} {hd_a : Nat} {hy_a : Nat} {a : Nat → Nat} {pp dd : Nat} (hS : h.1 = fx_S0 a pp dd) (hp : h.1[pp]? = some (hp_a, .inl (10, [some (pp + 1), none, none, none]))) (hx : h.1[(pp + 1)]? = some (hx_a, .inr (0, 960))) (hd : h.1[dd]? = some (hd_a, .inl (10, [some (dd + 1), none, none, none]))) (hy : h.1[(dd + 1)]? = some (hy_a, .inr (0, 960)))
    (H : fx_Mt l M_BY_appendNumber (0, 0) [.ref 1, .int (zI 2), .int (zI n)] h (fun v h1 => v = none ∧ h1.1 = h.1 ∧ fx_Mt l M_BY_appendNumber (0, 0) [.ref 1, .int (zI 2), .int (zI 4)] h1 (fun v h3 => v = none ∧ h3.1 = h1.1 ∧ fx_Mt l M_BY_appendNumber (0, 0) [.ref 1, .int (zI 4), .int (zI m)] h3 (fun v h5 => v = none ∧ h5.1 = h3.1 ∧ fx_Mt l M_BY_appendNumber (0, 0) [.ref 1, .int (zI 4), .int (zI u)] h5 (fun v h7 => v = none ∧ h7.1 = h5.1 ∧ Q none h7))))) :
    fx_Mt l M_FP_appendLongTag (0, 0) [.ref 0, .int (zI n), .int (zI m), .int (zI u)] h Q := by
  refine fx_entry (ls := [some (.ref 0), some (.int (zI n)), some (.int (zI m)), some (.int (zI u))]) (by decide) (Nat.le_of_ble_eq_true rfl) rfl ?_
  refine fx_aload_n (i := 0) d_FP_appendLongTag_0 rfl rfl ?_
  refine fx_getR (q := 1) d_FP_appendLongTag_1 lk_FP_20 (at_0 (h := _) hS) rfl rfl ?_
  refine fx_iconst d_FP_appendLongTag_4 ?_
  refine fx_iload_n (i := 1) d_FP_appendLongTag_5 rfl rfl ?_
  refine fx_callV (M' := M_BY_appendNumber) (B' := (0, 0)) (vs := [.int (zI 2), .int (zI n)]) (rest := []) (c1 := 0) (s1 := 0) (n := 9) d_FP_appendLongTag_6 ca_FP_appendLongTag_263 (at_1 (h := _) hS) rfl rfl rfl ⟨by decide, by decide⟩ (Nat.le_of_ble_eq_true rfl) (Or.inl rfl) (fx_Mt.mono H fun v h1 hv => ?_)
  obtain ⟨rfl, e2, H⟩ := hv
  have hS1 := e2.trans hS
  have hp1 : h1.1[pp]? = some (hp_a, .inl (10, [some (pp + 1), none, none, none])) := by rw [e2]; exact hp
  have hx1 : h1.1[(pp + 1)]? = some (hx_a, .inr (0, 960)) := by rw [e2]; exact hx
  have hd1 : h1.1[dd]? = some (hd_a, .inl (10, [some (dd + 1), none, none, none])) := by rw [e2]; exact hd
  have hy1 : h1.1[(dd + 1)]? = some (hy_a, .inr (0, 960)) := by rw [e2]; exact hy
  show fx_V l M_FP_appendLongTag (0, 0) Q 0 0 9 [some (.ref 0), some (.int (zI n)), some (.int (zI m)), some (.int (zI u))] [] h1
  refine fx_aload_n (i := 0) d_FP_appendLongTag_9 rfl rfl ?_
  refine fx_getR (q := 1) d_FP_appendLongTag_10 lk_FP_20 (at_0 (h := _) hS1) rfl rfl ?_
  refine fx_iconst d_FP_appendLongTag_13 ?_
  refine fx_iconst d_FP_appendLongTag_14 ?_
  refine fx_callV (M' := M_BY_appendNumber) (B' := (0, 0)) (vs := [.int (zI 2), .int (zI 4)]) (rest := []) (c1 := 0) (s1 := 0) (n := 18) d_FP_appendLongTag_15 ca_FP_appendLongTag_263 (at_1 (h := _) hS1) rfl rfl rfl ⟨by decide, by decide⟩ (Nat.le_of_ble_eq_true rfl) (Or.inl rfl) (fx_Mt.mono H fun v h3 hv => ?_)
  obtain ⟨rfl, e4, H⟩ := hv
  have hS3 := e4.trans hS1
  have hp3 : h3.1[pp]? = some (hp_a, .inl (10, [some (pp + 1), none, none, none])) := by rw [e4]; exact hp1
  have hx3 : h3.1[(pp + 1)]? = some (hx_a, .inr (0, 960)) := by rw [e4]; exact hx1
  have hd3 : h3.1[dd]? = some (hd_a, .inl (10, [some (dd + 1), none, none, none])) := by rw [e4]; exact hd1
  have hy3 : h3.1[(dd + 1)]? = some (hy_a, .inr (0, 960)) := by rw [e4]; exact hy1
  show fx_V l M_FP_appendLongTag (0, 0) Q 0 0 18 [some (.ref 0), some (.int (zI n)), some (.int (zI m)), some (.int (zI u))] [] h3
  refine fx_aload_n (i := 0) d_FP_appendLongTag_18 rfl rfl ?_
  refine fx_getR (q := 1) d_FP_appendLongTag_19 lk_FP_20 (at_0 (h := _) hS3) rfl rfl ?_
  refine fx_iconst d_FP_appendLongTag_22 ?_
  refine fx_iload_n (i := 2) d_FP_appendLongTag_23 rfl rfl ?_
  refine fx_callV (M' := M_BY_appendNumber) (B' := (0, 0)) (vs := [.int (zI 4), .int (zI m)]) (rest := []) (c1 := 0) (s1 := 0) (n := 27) d_FP_appendLongTag_24 ca_FP_appendLongTag_263 (at_1 (h := _) hS3) rfl rfl rfl ⟨by decide, by decide⟩ (Nat.le_of_ble_eq_true rfl) (Or.inl rfl) (fx_Mt.mono H fun v h5 hv => ?_)
  obtain ⟨rfl, e6, H⟩ := hv
  have hS5 := e6.trans hS3
  have hp5 : h5.1[pp]? = some (hp_a, .inl (10, [some (pp + 1), none, none, none])) := by rw [e6]; exact hp3
  have hx5 : h5.1[(pp + 1)]? = some (hx_a, .inr (0, 960)) := by rw [e6]; exact hx3
  have hd5 : h5.1[dd]? = some (hd_a, .inl (10, [some (dd + 1), none, none, none])) := by rw [e6]; exact hd3
  have hy5 : h5.1[(dd + 1)]? = some (hy_a, .inr (0, 960)) := by rw [e6]; exact hy3
  show fx_V l M_FP_appendLongTag (0, 0) Q 0 0 27 [some (.ref 0), some (.int (zI n)), some (.int (zI m)), some (.int (zI u))] [] h5
  refine fx_aload_n (i := 0) d_FP_appendLongTag_27 rfl rfl ?_
  refine fx_getR (q := 1) d_FP_appendLongTag_28 lk_FP_20 (at_0 (h := _) hS5) rfl rfl ?_
  refine fx_iconst d_FP_appendLongTag_31 ?_
  refine fx_iload_n (i := 3) d_FP_appendLongTag_32 rfl rfl ?_
  refine fx_callV (M' := M_BY_appendNumber) (B' := (0, 0)) (vs := [.int (zI 4), .int (zI u)]) (rest := []) (c1 := 0) (s1 := 0) (n := 36) d_FP_appendLongTag_33 ca_FP_appendLongTag_263 (at_1 (h := _) hS5) rfl rfl rfl ⟨by decide, by decide⟩ (Nat.le_of_ble_eq_true rfl) (Or.inl rfl) (fx_Mt.mono H fun v h7 hv => ?_)
  obtain ⟨rfl, e8, H⟩ := hv
  have hS7 := e8.trans hS5
  have hp7 : h7.1[pp]? = some (hp_a, .inl (10, [some (pp + 1), none, none, none])) := by rw [e8]; exact hp5
  have hx7 : h7.1[(pp + 1)]? = some (hx_a, .inr (0, 960)) := by rw [e8]; exact hx5
  have hd7 : h7.1[dd]? = some (hd_a, .inl (10, [some (dd + 1), none, none, none])) := by rw [e8]; exact hd5
  have hy7 : h7.1[(dd + 1)]? = some (hy_a, .inr (0, 960)) := by rw [e8]; exact hy5
  show fx_V l M_FP_appendLongTag (0, 0) Q 0 0 36 [some (.ref 0), some (.int (zI n)), some (.int (zI m)), some (.int (zI u))] [] h7
  exact fx_end none ⟨rfl, d_FP_appendLongTag_36⟩ (Nat.le_refl _) (Nat.le_refl _) rfl H

set_option maxRecDepth 100000 in
set_option maxHeartbeats 4000000 in
theorem e_FP_know {l : Launch} {Q : Option Value → fx_H → Prop} {h : fx_H}  {s : Int} {b : Int} {n : Int} {m : Int} {hp_a : Nat} {hx_a : Nat} {hd_a : Nat} {hy_a : Nat} {a : Nat → Nat} {pp dd : Nat} (hS : h.1 = fx_S0 a pp dd) (hp : h.1[pp]? = some (hp_a, .inl (10, [some (pp + 1), none, none, none]))) (hx : h.1[(pp + 1)]? = some (hx_a, .inr (0, 960))) (hd : h.1[dd]? = some (hd_a, .inl (10, [some (dd + 1), none, none, none]))) (hy : h.1[(dd + 1)]? = some (hy_a, .inr (0, 960)))
    (H : (b = 0 ∨ b = 1) ∧ Q none (fx_uF (fx_uF (fx_uF (fx_uF (fx_uF h 0 12 1) 0 13 s) 0 14 b) 0 15 n) 0 16 m)) :
    fx_Mt l M_FP_know (0, 0) [.ref 0, .int (zI s), .int (zI b), .int (zI n), .int (zI m)] h Q := by
  refine fx_entry (ls := [some (.ref 0), some (.int (zI s)), some (.int (zI b)), some (.int (zI n)), some (.int (zI m))]) (by decide) (Nat.le_of_ble_eq_true rfl) rfl ?_
  refine fx_aload_n (i := 0) d_FP_know_0 rfl rfl ?_
  refine fx_iconst d_FP_know_1 ?_
  refine fx_putI d_FP_know_2 lk_FP_121 (at_0 (h := _) hS) rfl rfl rfl ?_
  refine fx_aload_n (i := 0) d_FP_know_5 rfl rfl ?_
  refine fx_iload_n (i := 1) d_FP_know_6 rfl rfl ?_
  refine fx_putI d_FP_know_7 lk_FP_216 (at_0 (h := _) hS) rfl rfl rfl ?_
  refine fx_aload_n (i := 0) d_FP_know_10 rfl rfl ?_
  refine fx_iload_n (i := 2) d_FP_know_11 rfl rfl ?_
  obtain ⟨hn1, H⟩ := H
  refine fx_putI d_FP_know_12 lk_FP_219 (at_0 (h := _) hS) rfl (fx_nb hn1) (fx_fb hn1) ?_
  refine fx_aload_n (i := 0) d_FP_know_15 rfl rfl ?_
  refine fx_iload_n (i := 3) d_FP_know_16 rfl rfl ?_
  refine fx_putI d_FP_know_17 lk_FP_222 (at_0 (h := _) hS) rfl rfl rfl ?_
  refine fx_aload_n (i := 0) d_FP_know_20 rfl rfl ?_
  refine fx_iload d_FP_know_21 rfl ?_
  refine fx_putI d_FP_know_23 lk_FP_225 (at_0 (h := _) hS) rfl rfl rfl ?_
  exact fx_end none ⟨rfl, d_FP_know_26⟩ (Nat.le_refl _) (Nat.le_refl _) rfl H

set_option maxRecDepth 100000 in
set_option maxHeartbeats 4000000 in
theorem e_FP_infoOfFile {l : Launch} {Q : Option Value → fx_H → Prop} {h : fx_H}  {n : Int} {hp_a : Nat} {hx_a : Nat} {hd_a : Nat} {hy_a : Nat} {a : Nat → Nat} {pp dd : Nat} (hS : h.1 = fx_S0 a pp dd) (hp : h.1[pp]? = some (hp_a, .inl (10, [some (pp + 1), none, none, none]))) (hx : h.1[(pp + 1)]? = some (hx_a, .inr (0, 960))) (hd : h.1[dd]? = some (hd_a, .inl (10, [some (dd + 1), none, none, none]))) (hy : h.1[(dd + 1)]? = some (hy_a, .inr (0, 960)))
    (H : zR n ∧ (((n < 3 ∨ 6 < n) → Q (some (.int (zI (-9)))) h) ∧ (n = 3 → Q (some (.int (zI (h.2.1 0 13)))) h) ∧ (n = 4 → zR (h.2.1 0 14) ∧ (((h.2.1 0 14) = 0 → Q (some (.int (zI 0))) h) ∧ (¬ ((h.2.1 0 14) = 0) → Q (some (.int (zI 1))) h))) ∧ (n = 5 → Q (some (.int (zI (h.2.1 0 15)))) h) ∧ (n = 6 → Q (some (.int (zI (h.2.1 0 16)))) h))) :
    fx_Mt l M_FP_infoOfFile (0, 0) [.ref 0, .int (zI n)] h Q := by
  refine fx_entry (ls := [some (.ref 0), some (.int (zI n))]) (by decide) (Nat.le_of_ble_eq_true rfl) rfl ?_
  refine fx_iload_n (i := 1) d_FP_infoOfFile_0 rfl rfl ?_
  obtain ⟨hz1, H⟩ := H
  obtain ⟨H0, H⟩ := H
  rcases Classical.em (n < 3 ∨ 6 < n) with z2 | z2
  · replace H := H0 z2
    refine fx_tableOut (n := 60) d_FP_infoOfFile_1 hz1 z2 ?_
    refine fx_bipush (v := -9) d_FP_infoOfFile_60 rfl ?_
    exact fx_end (some (.int (zI (-9)))) ⟨⟨_, rfl, rfl⟩, d_FP_infoOfFile_62⟩ (Nat.le_refl _) (Nat.le_refl _) rfl H
  · rcases (show n = 3 ∨ n = 4 ∨ n = 5 ∨ n = 6 by omega) with z2e | z2e | z2e | z2e
    · replace H := H.1 z2e
      refine fx_tableIn (n := 32) d_FP_infoOfFile_1 hz1 (by omega) (by omega) (by rw [z2e]; rfl) ?_
      refine fx_aload_n (i := 0) d_FP_infoOfFile_32 rfl rfl ?_
      refine fx_getI d_FP_infoOfFile_33 lk_FP_216 (at_0 (h := _) hS) rfl ?_
      exact fx_end (some (.int (zI (h.2.1 0 13)))) ⟨⟨_, rfl, rfl⟩, d_FP_infoOfFile_36⟩ (Nat.le_refl _) (Nat.le_refl _) rfl H
    · replace H := H.2.1 z2e
      refine fx_tableIn (n := 37) d_FP_infoOfFile_1 hz1 (by omega) (by omega) (by rw [z2e]; rfl) ?_
      refine fx_aload_n (i := 0) d_FP_infoOfFile_37 rfl rfl ?_
      refine fx_getI d_FP_infoOfFile_38 lk_FP_219 (at_0 (h := _) hS) rfl ?_
      obtain ⟨hz3, H⟩ := H
      refine fx_if_eq (t := 48) (n := 44) d_FP_infoOfFile_41 hz3 (fun z4 => ?_) (fun z4 => ?_)
      · replace H := H.1 z4
        refine fx_iconst d_FP_infoOfFile_48 ?_
        exact fx_end (some (.int (zI 0))) ⟨⟨_, rfl, rfl⟩, d_FP_infoOfFile_49⟩ (Nat.le_refl _) (Nat.le_refl _) rfl H
      · replace H := H.2 z4
        refine fx_iconst d_FP_infoOfFile_44 ?_
        refine fx_goto (n := 49) d_FP_infoOfFile_45 ?_
        exact fx_end (some (.int (zI 1))) ⟨⟨_, rfl, rfl⟩, d_FP_infoOfFile_49⟩ (Nat.le_refl _) (Nat.le_refl _) rfl H
    · replace H := H.2.2.1 z2e
      refine fx_tableIn (n := 50) d_FP_infoOfFile_1 hz1 (by omega) (by omega) (by rw [z2e]; rfl) ?_
      refine fx_aload_n (i := 0) d_FP_infoOfFile_50 rfl rfl ?_
      refine fx_getI d_FP_infoOfFile_51 lk_FP_222 (at_0 (h := _) hS) rfl ?_
      exact fx_end (some (.int (zI (h.2.1 0 15)))) ⟨⟨_, rfl, rfl⟩, d_FP_infoOfFile_54⟩ (Nat.le_refl _) (Nat.le_refl _) rfl H
    · replace H := H.2.2.2 z2e
      refine fx_tableIn (n := 55) d_FP_infoOfFile_1 hz1 (by omega) (by omega) (by rw [z2e]; rfl) ?_
      refine fx_aload_n (i := 0) d_FP_infoOfFile_55 rfl rfl ?_
      refine fx_getI d_FP_infoOfFile_56 lk_FP_225 (at_0 (h := _) hS) rfl ?_
      exact fx_end (some (.int (zI (h.2.1 0 16)))) ⟨⟨_, rfl, rfl⟩, d_FP_infoOfFile_59⟩ (Nat.le_refl _) (Nat.le_refl _) rfl H

set_option maxRecDepth 100000 in
set_option maxHeartbeats 4000000 in
theorem e_FP_blank {l : Launch} {Q : Option Value → fx_H → Prop} {h : fx_H}  {g : Int} {x : Int} {y : Int} {hp_a : Nat} {hx_a : Nat} {hd_a : Nat} {hy_a : Nat} {a : Nat → Nat} {pp dd : Nat} (hS : h.1 = fx_S0 a pp dd) (hp : h.1[pp]? = some (hp_a, .inl (10, [some (pp + 1), none, none, none]))) (hx : h.1[(pp + 1)]? = some (hx_a, .inr (0, 960))) (hd : h.1[dd]? = some (hd_a, .inl (10, [some (dd + 1), none, none, none]))) (hy : h.1[(dd + 1)]? = some (hy_a, .inr (0, 960)))
    (H : zR x ∧ zR y ∧ fx_Mt l M_FP_sizeCanBe (0, 0) [.int (zI g), .long (zL x), .long (zL y)] h (fun v h3 => ∃ r5 : Int, v = some (.int (zI r5)) ∧ h3.1 = h.1 ∧ zR r5 ∧ ((¬ r5 = 0 → fx_Mt l M_PI_clear (0, 0) [.ref pp, .int (zI g), .int (zI x), .int (zI y)] h3 (fun v h8 => v = none ∧ h8.1 = h3.1 ∧ Q none h8)) ∧ (r5 = 0 → False)))) :
    fx_Mt l M_FP_blank (0, 0) [.ref 0, .int (zI g), .int (zI x), .int (zI y)] h Q := by
  refine fx_entry (ls := [some (.ref 0), some (.int (zI g)), some (.int (zI x)), some (.int (zI y))]) (by decide) (Nat.le_of_ble_eq_true rfl) rfl ?_
  refine fx_iload_n (i := 1) d_FP_blank_0 rfl rfl ?_
  refine fx_iload_n (i := 2) d_FP_blank_1 rfl rfl ?_
  obtain ⟨hz1, H⟩ := H
  refine fx_i2l d_FP_blank_2 hz1 ?_
  refine fx_iload_n (i := 3) d_FP_blank_3 rfl rfl ?_
  obtain ⟨hz2, H⟩ := H
  refine fx_i2l d_FP_blank_4 hz2 ?_
  refine fx_callS (M' := M_FP_sizeCanBe) (B' := (0, 0)) (vs := [.int (zI g), .long (zL x), .long (zL y)]) (rest := []) (c1 := 0) (s1 := 0) (n := 8) d_FP_blank_5 ca_FP_blank_84 rfl rfl ⟨by decide, by decide⟩ (Nat.le_of_ble_eq_true rfl) (Or.inl rfl) (fx_Mt.mono H fun v h3 hv => ?_)
  obtain ⟨r5, rfl, e4, H⟩ := hv
  have hS3 := e4.trans hS
  have hp3 : h3.1[pp]? = some (hp_a, .inl (10, [some (pp + 1), none, none, none])) := by rw [e4]; exact hp
  have hx3 : h3.1[(pp + 1)]? = some (hx_a, .inr (0, 960)) := by rw [e4]; exact hx
  have hd3 : h3.1[dd]? = some (hd_a, .inl (10, [some (dd + 1), none, none, none])) := by rw [e4]; exact hd
  have hy3 : h3.1[(dd + 1)]? = some (hy_a, .inr (0, 960)) := by rw [e4]; exact hy
  show fx_V l M_FP_blank (0, 0) Q 0 0 8 [some (.ref 0), some (.int (zI g)), some (.int (zI x)), some (.int (zI y))] [.int (zI r5)] h3
  obtain ⟨hz6, H⟩ := H
  refine fx_if_ne (t := 19) (n := 11) d_FP_blank_8 hz6 (fun z7 => ?_) (fun z7 => ?_)
  · replace H := H.1 z7
    refine fx_aload_n (i := 0) d_FP_blank_19 rfl rfl ?_
    refine fx_getR (q := pp) d_FP_blank_20 lk_FP_77 (at_0 (h := _) hS3) rfl rfl ?_
    refine fx_iload_n (i := 1) d_FP_blank_23 rfl rfl ?_
    refine fx_iload_n (i := 2) d_FP_blank_24 rfl rfl ?_
    refine fx_iload_n (i := 3) d_FP_blank_25 rfl rfl ?_
    refine fx_callV (M' := M_PI_clear) (B' := (0, 0)) (vs := [.int (zI g), .int (zI x), .int (zI y)]) (rest := []) (c1 := 0) (s1 := 0) (n := 29) d_FP_blank_26 ca_FP_blank_91 hp3 rfl rfl rfl ⟨by decide, by decide⟩ (Nat.le_of_ble_eq_true rfl) (Or.inl rfl) (fx_Mt.mono H fun v h8 hv => ?_)
    obtain ⟨rfl, e9, H⟩ := hv
    have hS8 := e9.trans hS3
    have hp8 : h8.1[pp]? = some (hp_a, .inl (10, [some (pp + 1), none, none, none])) := by rw [e9]; exact hp3
    have hx8 : h8.1[(pp + 1)]? = some (hx_a, .inr (0, 960)) := by rw [e9]; exact hx3
    have hd8 : h8.1[dd]? = some (hd_a, .inl (10, [some (dd + 1), none, none, none])) := by rw [e9]; exact hd3
    have hy8 : h8.1[(dd + 1)]? = some (hy_a, .inr (0, 960)) := by rw [e9]; exact hy3
    show fx_V l M_FP_blank (0, 0) Q 0 0 29 [some (.ref 0), some (.int (zI g)), some (.int (zI x)), some (.int (zI y))] [] h8
    exact fx_end none ⟨rfl, d_FP_blank_29⟩ (Nat.le_refl _) (Nat.le_refl _) rfl H
  · replace H := H.2 z7
    exact H.elim

set_option maxRecDepth 100000 in
set_option maxHeartbeats 4000000 in
theorem e_FP_set {l : Launch} {Q : Option Value → fx_H → Prop} {h : fx_H}  {x : Int} {y : Int} {u : Int} {hp_a : Nat} {hx_a : Nat} {hd_a : Nat} {hy_a : Nat} {a : Nat → Nat} {pp dd : Nat} (hS : h.1 = fx_S0 a pp dd) (hp : h.1[pp]? = some (hp_a, .inl (10, [some (pp + 1), none, none, none]))) (hx : h.1[(pp + 1)]? = some (hx_a, .inr (0, 960))) (hd : h.1[dd]? = some (hd_a, .inl (10, [some (dd + 1), none, none, none]))) (hy : h.1[(dd + 1)]? = some (hy_a, .inr (0, 960)))
    (H : fx_Mt l M_PI_has (0, 0) [.ref pp, .int (zI x), .int (zI y)] h (fun v h1 => ∃ r3 : Int, v = some (.int (zI r3)) ∧ h1.1 = h.1 ∧ zR r3 ∧ ((¬ r3 = 0 → zR u ∧ ((u < 0 → False) ∧ (¬ (u < 0) → zR (h1.2.1 pp 1) ∧ (((h1.2.1 pp 1) = 0 → ((u ≤ 1 → fx_Mt l M_PI_paint (0, 0) [.ref pp, .int (zI x), .int (zI y), .int (zI u)] h1 (fun v h11 => v = none ∧ h11.1 = h1.1 ∧ Q none h11)) ∧ (¬ (u ≤ 1) → False))) ∧ (¬ ((h1.2.1 pp 1) = 0) → ((u ≤ 255 → fx_Mt l M_PI_paint (0, 0) [.ref pp, .int (zI x), .int (zI y), .int (zI u)] h1 (fun v h14 => v = none ∧ h14.1 = h1.1 ∧ Q none h14)) ∧ (¬ (u ≤ 255) → False))))))) ∧ (r3 = 0 → False)))) :
    fx_Mt l M_FP_set (0, 0) [.ref 0, .int (zI x), .int (zI y), .int (zI u)] h Q := by
  refine fx_entry (ls := [some (.ref 0), some (.int (zI x)), some (.int (zI y)), some (.int (zI u))]) (by decide) (Nat.le_of_ble_eq_true rfl) rfl ?_
  refine fx_aload_n (i := 0) d_FP_set_0 rfl rfl ?_
  refine fx_getR (q := pp) d_FP_set_1 lk_FP_77 (at_0 (h := _) hS) rfl rfl ?_
  refine fx_iload_n (i := 1) d_FP_set_4 rfl rfl ?_
  refine fx_iload_n (i := 2) d_FP_set_5 rfl rfl ?_
  refine fx_callV (M' := M_PI_has) (B' := (0, 0)) (vs := [.int (zI x), .int (zI y)]) (rest := []) (c1 := 0) (s1 := 0) (n := 9) d_FP_set_6 ca_FP_set_95 hp rfl rfl rfl ⟨by decide, by decide⟩ (Nat.le_of_ble_eq_true rfl) (Or.inl rfl) (fx_Mt.mono H fun v h1 hv => ?_)
  obtain ⟨r3, rfl, e2, H⟩ := hv
  have hS1 := e2.trans hS
  have hp1 : h1.1[pp]? = some (hp_a, .inl (10, [some (pp + 1), none, none, none])) := by rw [e2]; exact hp
  have hx1 : h1.1[(pp + 1)]? = some (hx_a, .inr (0, 960)) := by rw [e2]; exact hx
  have hd1 : h1.1[dd]? = some (hd_a, .inl (10, [some (dd + 1), none, none, none])) := by rw [e2]; exact hd
  have hy1 : h1.1[(dd + 1)]? = some (hy_a, .inr (0, 960)) := by rw [e2]; exact hy
  show fx_V l M_FP_set (0, 0) Q 0 0 9 [some (.ref 0), some (.int (zI x)), some (.int (zI y)), some (.int (zI u))] [.int (zI r3)] h1
  obtain ⟨hz4, H⟩ := H
  refine fx_if_ne (t := 20) (n := 12) d_FP_set_9 hz4 (fun z5 => ?_) (fun z5 => ?_)
  · replace H := H.1 z5
    refine fx_iload_n (i := 3) d_FP_set_20 rfl rfl ?_
    obtain ⟨hz6, H⟩ := H
    refine fx_if_lt (t := 45) (n := 24) d_FP_set_21 hz6 (fun z7 => ?_) (fun z7 => ?_)
    · replace H := H.1 z7
      exact H.elim
    · replace H := H.2 z7
      refine fx_iload_n (i := 3) d_FP_set_24 rfl rfl ?_
      refine fx_aload_n (i := 0) d_FP_set_25 rfl rfl ?_
      refine fx_getR (q := pp) d_FP_set_26 lk_FP_77 (at_0 (h := _) hS1) rfl rfl ?_
      refine fx_getI d_FP_set_29 lk_FP_102 hp1 rfl ?_
      obtain ⟨hz8, H⟩ := H
      refine fx_if_eq (t := 41) (n := 35) d_FP_set_32 hz8 (fun z9 => ?_) (fun z9 => ?_)
      · replace H := H.1 z9
        refine fx_iconst d_FP_set_41 ?_
        refine fx_icmp_le (t := 53) (n := 45) d_FP_set_42 hz6 (show zR 1 by decide) (fun z10 => ?_) (fun z10 => ?_)
        · replace H := H.1 z10
          refine fx_aload_n (i := 0) d_FP_set_53 rfl rfl ?_
          refine fx_getR (q := pp) d_FP_set_54 lk_FP_77 (at_0 (h := _) hS1) rfl rfl ?_
          refine fx_iload_n (i := 1) d_FP_set_57 rfl rfl ?_
          refine fx_iload_n (i := 2) d_FP_set_58 rfl rfl ?_
          refine fx_iload_n (i := 3) d_FP_set_59 rfl rfl ?_
          refine fx_callV (M' := M_PI_paint) (B' := (0, 0)) (vs := [.int (zI x), .int (zI y), .int (zI u)]) (rest := []) (c1 := 0) (s1 := 0) (n := 63) d_FP_set_60 ca_FP_set_106 hp1 rfl rfl rfl ⟨by decide, by decide⟩ (Nat.le_of_ble_eq_true rfl) (Or.inl rfl) (fx_Mt.mono H fun v h11 hv => ?_)
          obtain ⟨rfl, e12, H⟩ := hv
          have hS11 := e12.trans hS1
          have hp11 : h11.1[pp]? = some (hp_a, .inl (10, [some (pp + 1), none, none, none])) := by rw [e12]; exact hp1
          have hx11 : h11.1[(pp + 1)]? = some (hx_a, .inr (0, 960)) := by rw [e12]; exact hx1
          have hd11 : h11.1[dd]? = some (hd_a, .inl (10, [some (dd + 1), none, none, none])) := by rw [e12]; exact hd1
          have hy11 : h11.1[(dd + 1)]? = some (hy_a, .inr (0, 960)) := by rw [e12]; exact hy1
          show fx_V l M_FP_set (0, 0) Q 0 0 63 [some (.ref 0), some (.int (zI x)), some (.int (zI y)), some (.int (zI u))] [] h11
          exact fx_end none ⟨rfl, d_FP_set_63⟩ (Nat.le_refl _) (Nat.le_refl _) rfl H
        · replace H := H.2 z10
          exact H.elim
      · replace H := H.2 z9
        refine fx_sipush (v := 255) d_FP_set_35 rfl ?_
        refine fx_goto (n := 42) d_FP_set_38 ?_
        refine fx_icmp_le (t := 53) (n := 45) d_FP_set_42 hz6 (show zR 255 by decide) (fun z13 => ?_) (fun z13 => ?_)
        · replace H := H.1 z13
          refine fx_aload_n (i := 0) d_FP_set_53 rfl rfl ?_
          refine fx_getR (q := pp) d_FP_set_54 lk_FP_77 (at_0 (h := _) hS1) rfl rfl ?_
          refine fx_iload_n (i := 1) d_FP_set_57 rfl rfl ?_
          refine fx_iload_n (i := 2) d_FP_set_58 rfl rfl ?_
          refine fx_iload_n (i := 3) d_FP_set_59 rfl rfl ?_
          refine fx_callV (M' := M_PI_paint) (B' := (0, 0)) (vs := [.int (zI x), .int (zI y), .int (zI u)]) (rest := []) (c1 := 0) (s1 := 0) (n := 63) d_FP_set_60 ca_FP_set_106 hp1 rfl rfl rfl ⟨by decide, by decide⟩ (Nat.le_of_ble_eq_true rfl) (Or.inl rfl) (fx_Mt.mono H fun v h14 hv => ?_)
          obtain ⟨rfl, e15, H⟩ := hv
          have hS14 := e15.trans hS1
          have hp14 : h14.1[pp]? = some (hp_a, .inl (10, [some (pp + 1), none, none, none])) := by rw [e15]; exact hp1
          have hx14 : h14.1[(pp + 1)]? = some (hx_a, .inr (0, 960)) := by rw [e15]; exact hx1
          have hd14 : h14.1[dd]? = some (hd_a, .inl (10, [some (dd + 1), none, none, none])) := by rw [e15]; exact hd1
          have hy14 : h14.1[(dd + 1)]? = some (hy_a, .inr (0, 960)) := by rw [e15]; exact hy1
          show fx_V l M_FP_set (0, 0) Q 0 0 63 [some (.ref 0), some (.int (zI x)), some (.int (zI y)), some (.int (zI u))] [] h14
          exact fx_end none ⟨rfl, d_FP_set_63⟩ (Nat.le_refl _) (Nat.le_refl _) rfl H
        · replace H := H.2 z13
          exact H.elim
  · replace H := H.2 z5
    exact H.elim

set_option maxRecDepth 100000 in
set_option maxHeartbeats 4000000 in
theorem e_FP_get {l : Launch} {Q : Option Value → fx_H → Prop} {h : fx_H}  {x : Int} {y : Int} {hp_a : Nat} {hx_a : Nat} {hd_a : Nat} {hy_a : Nat} {a : Nat → Nat} {pp dd : Nat} (hS : h.1 = fx_S0 a pp dd) (hp : h.1[pp]? = some (hp_a, .inl (10, [some (pp + 1), none, none, none]))) (hx : h.1[(pp + 1)]? = some (hx_a, .inr (0, 960))) (hd : h.1[dd]? = some (hd_a, .inl (10, [some (dd + 1), none, none, none]))) (hy : h.1[(dd + 1)]? = some (hy_a, .inr (0, 960)))
    (H : fx_Mt l M_PI_has (0, 0) [.ref pp, .int (zI x), .int (zI y)] h (fun v h1 => ∃ r3 : Int, v = some (.int (zI r3)) ∧ h1.1 = h.1 ∧ zR r3 ∧ ((r3 = 0 → Q (some (.int (zI (-9)))) h1) ∧ (¬ (r3 = 0) → fx_Mt l M_PI_pixel (0, 0) [.ref pp, .int (zI x), .int (zI y)] h1 (fun v h6 => ∃ r8 : Int, v = some (.int (zI r8)) ∧ h6.1 = h1.1 ∧ Q (some (.int (zI r8))) h6))))) :
    fx_Mt l M_FP_get (0, 0) [.ref 0, .int (zI x), .int (zI y)] h Q := by
  refine fx_entry (ls := [some (.ref 0), some (.int (zI x)), some (.int (zI y))]) (by decide) (Nat.le_of_ble_eq_true rfl) rfl ?_
  refine fx_aload_n (i := 0) d_FP_get_0 rfl rfl ?_
  refine fx_getR (q := pp) d_FP_get_1 lk_FP_77 (at_0 (h := _) hS) rfl rfl ?_
  refine fx_iload_n (i := 1) d_FP_get_4 rfl rfl ?_
  refine fx_iload_n (i := 2) d_FP_get_5 rfl rfl ?_
  refine fx_callV (M' := M_PI_has) (B' := (0, 0)) (vs := [.int (zI x), .int (zI y)]) (rest := []) (c1 := 0) (s1 := 0) (n := 9) d_FP_get_6 ca_FP_get_95 hp rfl rfl rfl ⟨by decide, by decide⟩ (Nat.le_of_ble_eq_true rfl) (Or.inl rfl) (fx_Mt.mono H fun v h1 hv => ?_)
  obtain ⟨r3, rfl, e2, H⟩ := hv
  have hS1 := e2.trans hS
  have hp1 : h1.1[pp]? = some (hp_a, .inl (10, [some (pp + 1), none, none, none])) := by rw [e2]; exact hp
  have hx1 : h1.1[(pp + 1)]? = some (hx_a, .inr (0, 960)) := by rw [e2]; exact hx
  have hd1 : h1.1[dd]? = some (hd_a, .inl (10, [some (dd + 1), none, none, none])) := by rw [e2]; exact hd
  have hy1 : h1.1[(dd + 1)]? = some (hy_a, .inr (0, 960)) := by rw [e2]; exact hy
  show fx_V l M_FP_get (0, 0) Q 0 0 9 [some (.ref 0), some (.int (zI x)), some (.int (zI y))] [.int (zI r3)] h1
  obtain ⟨hz4, H⟩ := H
  refine fx_if_eq (t := 24) (n := 12) d_FP_get_9 hz4 (fun z5 => ?_) (fun z5 => ?_)
  · replace H := H.1 z5
    refine fx_bipush (v := -9) d_FP_get_24 rfl ?_
    exact fx_end (some (.int (zI (-9)))) ⟨⟨_, rfl, rfl⟩, d_FP_get_26⟩ (Nat.le_refl _) (Nat.le_refl _) rfl H
  · replace H := H.2 z5
    refine fx_aload_n (i := 0) d_FP_get_12 rfl rfl ?_
    refine fx_getR (q := pp) d_FP_get_13 lk_FP_77 (at_0 (h := _) hS1) rfl rfl ?_
    refine fx_iload_n (i := 1) d_FP_get_16 rfl rfl ?_
    refine fx_iload_n (i := 2) d_FP_get_17 rfl rfl ?_
    refine fx_callV (M' := M_PI_pixel) (B' := (0, 0)) (vs := [.int (zI x), .int (zI y)]) (rest := []) (c1 := 0) (s1 := 0) (n := 21) d_FP_get_18 ca_FP_get_110 hp1 rfl rfl rfl ⟨by decide, by decide⟩ (Nat.le_of_ble_eq_true rfl) (Or.inl rfl) (fx_Mt.mono H fun v h6 hv => ?_)
    obtain ⟨r8, rfl, e7, H⟩ := hv
    have hS6 := e7.trans hS1
    have hp6 : h6.1[pp]? = some (hp_a, .inl (10, [some (pp + 1), none, none, none])) := by rw [e7]; exact hp1
    have hx6 : h6.1[(pp + 1)]? = some (hx_a, .inr (0, 960)) := by rw [e7]; exact hx1
    have hd6 : h6.1[dd]? = some (hd_a, .inl (10, [some (dd + 1), none, none, none])) := by rw [e7]; exact hd1
    have hy6 : h6.1[(dd + 1)]? = some (hy_a, .inr (0, 960)) := by rw [e7]; exact hy1
    show fx_V l M_FP_get (0, 0) Q 0 0 21 [some (.ref 0), some (.int (zI x)), some (.int (zI y))] [.int (zI r8)] h6
    refine fx_goto (n := 26) d_FP_get_21 ?_
    exact fx_end (some (.int (zI r8))) ⟨⟨_, rfl, rfl⟩, d_FP_get_26⟩ (Nat.le_refl _) (Nat.le_refl _) rfl H

set_option maxRecDepth 100000 in
set_option maxHeartbeats 4000000 in
theorem e_FP_info {l : Launch} {Q : Option Value → fx_H → Prop} {h : fx_H}  {n : Int} {hp_a : Nat} {hx_a : Nat} {hd_a : Nat} {hy_a : Nat} {a : Nat → Nat} {pp dd : Nat} (hS : h.1 = fx_S0 a pp dd) (hp : h.1[pp]? = some (hp_a, .inl (10, [some (pp + 1), none, none, none]))) (hx : h.1[(pp + 1)]? = some (hx_a, .inr (0, 960))) (hd : h.1[dd]? = some (hd_a, .inl (10, [some (dd + 1), none, none, none]))) (hy : h.1[(dd + 1)]? = some (hy_a, .inr (0, 960)))
    (H : zR n ∧ (((n < 0 ∨ 2 < n) → zR (h.2.1 0 12) ∧ (((h.2.1 0 12) = 0 → Q (some (.int (zI (-9)))) h) ∧ (¬ ((h.2.1 0 12) = 0) → fx_Mt l M_FP_infoOfFile (0, 0) [.ref 0, .int (zI n)] h (fun v h5 => ∃ r7 : Int, v = some (.int (zI r7)) ∧ h5.1 = h.1 ∧ Q (some (.int (zI r7))) h5)))) ∧ (n = 0 → Q (some (.int (zI (h.2.1 pp 2)))) h) ∧ (n = 1 → Q (some (.int (zI (h.2.1 pp 3)))) h) ∧ (n = 2 → zR (h.2.1 pp 1) ∧ (((h.2.1 pp 1) = 0 → Q (some (.int (zI 0))) h) ∧ (¬ ((h.2.1 pp 1) = 0) → Q (some (.int (zI 1))) h))))) :
    fx_Mt l M_FP_info (0, 0) [.ref 0, .int (zI n)] h Q := by
  refine fx_entry (ls := [some (.ref 0), some (.int (zI n))]) (by decide) (Nat.le_of_ble_eq_true rfl) rfl ?_
  refine fx_iload_n (i := 1) d_FP_info_0 rfl rfl ?_
  obtain ⟨hz1, H⟩ := H
  obtain ⟨H0, H⟩ := H
  rcases Classical.em (n < 0 ∨ 2 < n) with z2 | z2
  · replace H := H0 z2
    refine fx_tableOut (n := 60) d_FP_info_1 hz1 z2 ?_
    refine fx_aload_n (i := 0) d_FP_info_60 rfl rfl ?_
    refine fx_getI d_FP_info_61 lk_FP_121 (at_0 (h := _) hS) rfl ?_
    obtain ⟨hz3, H⟩ := H
    refine fx_if_eq (t := 75) (n := 67) d_FP_info_64 hz3 (fun z4 => ?_) (fun z4 => ?_)
    · replace H := H.1 z4
      refine fx_bipush (v := -9) d_FP_info_75 rfl ?_
      exact fx_end (some (.int (zI (-9)))) ⟨⟨_, rfl, rfl⟩, d_FP_info_77⟩ (Nat.le_refl _) (Nat.le_refl _) rfl H
    · replace H := H.2 z4
      refine fx_aload_n (i := 0) d_FP_info_67 rfl rfl ?_
      refine fx_iload_n (i := 1) d_FP_info_68 rfl rfl ?_
      refine fx_callV (M' := M_FP_infoOfFile) (B' := (0, 0)) (vs := [.int (zI n)]) (rest := []) (c1 := 0) (s1 := 0) (n := 72) d_FP_info_69 ca_FP_info_124 (at_0 (h := _) hS) rfl rfl rfl ⟨by decide, by decide⟩ (Nat.le_of_ble_eq_true rfl) (Or.inl rfl) (fx_Mt.mono H fun v h5 hv => ?_)
      obtain ⟨r7, rfl, e6, H⟩ := hv
      have hS5 := e6.trans hS
      have hp5 : h5.1[pp]? = some (hp_a, .inl (10, [some (pp + 1), none, none, none])) := by rw [e6]; exact hp
      have hx5 : h5.1[(pp + 1)]? = some (hx_a, .inr (0, 960)) := by rw [e6]; exact hx
      have hd5 : h5.1[dd]? = some (hd_a, .inl (10, [some (dd + 1), none, none, none])) := by rw [e6]; exact hd
      have hy5 : h5.1[(dd + 1)]? = some (hy_a, .inr (0, 960)) := by rw [e6]; exact hy
      show fx_V l M_FP_info (0, 0) Q 0 0 72 [some (.ref 0), some (.int (zI n))] [.int (zI r7)] h5
      refine fx_goto (n := 77) d_FP_info_72 ?_
      exact fx_end (some (.int (zI r7))) ⟨⟨_, rfl, rfl⟩, d_FP_info_77⟩ (Nat.le_refl _) (Nat.le_refl _) rfl H
  · rcases (show n = 0 ∨ n = 1 ∨ n = 2 by omega) with z2e | z2e | z2e
    · replace H := H.1 z2e
      refine fx_tableIn (n := 28) d_FP_info_1 hz1 (by omega) (by omega) (by rw [z2e]; rfl) ?_
      refine fx_aload_n (i := 0) d_FP_info_28 rfl rfl ?_
      refine fx_getR (q := pp) d_FP_info_29 lk_FP_77 (at_0 (h := _) hS) rfl rfl ?_
      refine fx_getI d_FP_info_32 lk_FP_114 hp rfl ?_
      exact fx_end (some (.int (zI (h.2.1 pp 2)))) ⟨⟨_, rfl, rfl⟩, d_FP_info_35⟩ (Nat.le_refl _) (Nat.le_refl _) rfl H
    · replace H := H.2.1 z2e
      refine fx_tableIn (n := 36) d_FP_info_1 hz1 (by omega) (by omega) (by rw [z2e]; rfl) ?_
      refine fx_aload_n (i := 0) d_FP_info_36 rfl rfl ?_
      refine fx_getR (q := pp) d_FP_info_37 lk_FP_77 (at_0 (h := _) hS) rfl rfl ?_
      refine fx_getI d_FP_info_40 lk_FP_118 hp rfl ?_
      exact fx_end (some (.int (zI (h.2.1 pp 3)))) ⟨⟨_, rfl, rfl⟩, d_FP_info_43⟩ (Nat.le_refl _) (Nat.le_refl _) rfl H
    · replace H := H.2.2 z2e
      refine fx_tableIn (n := 44) d_FP_info_1 hz1 (by omega) (by omega) (by rw [z2e]; rfl) ?_
      refine fx_aload_n (i := 0) d_FP_info_44 rfl rfl ?_
      refine fx_getR (q := pp) d_FP_info_45 lk_FP_77 (at_0 (h := _) hS) rfl rfl ?_
      refine fx_getI d_FP_info_48 lk_FP_102 hp rfl ?_
      obtain ⟨hz8, H⟩ := H
      refine fx_if_eq (t := 58) (n := 54) d_FP_info_51 hz8 (fun z9 => ?_) (fun z9 => ?_)
      · replace H := H.1 z9
        refine fx_iconst d_FP_info_58 ?_
        exact fx_end (some (.int (zI 0))) ⟨⟨_, rfl, rfl⟩, d_FP_info_59⟩ (Nat.le_refl _) (Nat.le_refl _) rfl H
      · replace H := H.2 z9
        refine fx_iconst d_FP_info_54 ?_
        refine fx_goto (n := 59) d_FP_info_55 ?_
        exact fx_end (some (.int (zI 1))) ⟨⟨_, rfl, rfl⟩, d_FP_info_59⟩ (Nat.le_refl _) (Nat.le_refl _) rfl H

set_option maxRecDepth 100000 in
set_option maxHeartbeats 4000000 in
theorem e_FP_write {l : Launch} {Q : Option Value → fx_H → Prop} {h : fx_H}  {s : Int} {b : Int} {n : Int} {hp_a : Nat} {hx_a : Nat} {hd_a : Nat} {hy_a : Nat} {a : Nat → Nat} {pp dd : Nat} (hS : h.1 = fx_S0 a pp dd) (hp : h.1[pp]? = some (hp_a, .inl (10, [some (pp + 1), none, none, none]))) (hx : h.1[(pp + 1)]? = some (hx_a, .inr (0, 960))) (hd : h.1[dd]? = some (hd_a, .inl (10, [some (dd + 1), none, none, none]))) (hy : h.1[(dd + 1)]? = some (hy_a, .inr (0, 960)))
    (H : zR s ∧ fx_Mt l M_FP_isScheme (0, 0) [.long (zL s)] h (fun v h2 => ∃ r4 : Int, v = some (.int (zI r4)) ∧ h2.1 = h.1 ∧ zR r4 ∧ ((r4 = 0 → False) ∧ (¬ (r4 = 0) → zR n ∧ ((n < 1 → False) ∧ (¬ (n < 1) → zR (h2.2.1 pp 3) ∧ ((n ≤ (h2.2.1 pp 3) → zR (h2.2.1 pp 1) ∧ (((h2.2.1 pp 1) = 0 → fx_Mt l M_FP_stripsOf (0, 0) [.int (zI (h2.2.1 pp 3)), .int (zI n)] h2 (fun v h13 => ∃ r15 : Int, v = some (.int (zI r15)) ∧ h13.1 = h2.1 ∧ fx_Mt l M_BY_start (0, 0) [.ref 1, .int (zI b)] h13 (fun v h16 => v = none ∧ h16.1 = h13.1 ∧ fx_Mt l M_FP_packingOf (0, 0) [.ref 0, .int (zI s)] h16 (fun v h18 => ∃ q20 : Nat, v = some (.ref q20) ∧ (q20 = 13 ∨ q20 = 14 ∨ q20 = 16 ∨ q20 = 23 ∨ q20 = 24) ∧ h18.1 = h16.1 ∧ fx_Mt l M_FP_packStrips (0, 0) [.ref 0, .ref q20, .int (zI n), .int (zI r15)] h18 (fun v h21 => v = none ∧ h21.1 = h18.1 ∧ fx_Mt l M_FP_writeTags (0, 0) [.ref 0, .int (zI s), .int (zI n), .int (zI r15)] h21 (fun v h23 => v = none ∧ h23.1 = h21.1 ∧ fx_Mt l M_FP_know (0, 0) [.ref 0, .int (zI s), .int (zI b), .int (zI n), .int (zI r15)] h23 (fun v h25 => v = none ∧ h25.1 = h23.1 ∧ Q (some (.int (zI (h25.2.1 1 1)))) h25))))))) ∧ (¬ ((h2.2.1 pp 1) = 0) → fx_Mt l M_FP_isFax (0, 0) [.long (zL s)] h2 (fun v h27 => ∃ r29 : Int, v = some (.int (zI r29)) ∧ h27.1 = h2.1 ∧ zR r29 ∧ ((r29 = 0 → fx_Mt l M_FP_stripsOf (0, 0) [.int (zI (h27.2.1 pp 3)), .int (zI n)] h27 (fun v h32 => ∃ r34 : Int, v = some (.int (zI r34)) ∧ h32.1 = h27.1 ∧ fx_Mt l M_BY_start (0, 0) [.ref 1, .int (zI b)] h32 (fun v h35 => v = none ∧ h35.1 = h32.1 ∧ fx_Mt l M_FP_packingOf (0, 0) [.ref 0, .int (zI s)] h35 (fun v h37 => ∃ q39 : Nat, v = some (.ref q39) ∧ (q39 = 13 ∨ q39 = 14 ∨ q39 = 16 ∨ q39 = 23 ∨ q39 = 24) ∧ h37.1 = h35.1 ∧ fx_Mt l M_FP_packStrips (0, 0) [.ref 0, .ref q39, .int (zI n), .int (zI r34)] h37 (fun v h40 => v = none ∧ h40.1 = h37.1 ∧ fx_Mt l M_FP_writeTags (0, 0) [.ref 0, .int (zI s), .int (zI n), .int (zI r34)] h40 (fun v h42 => v = none ∧ h42.1 = h40.1 ∧ fx_Mt l M_FP_know (0, 0) [.ref 0, .int (zI s), .int (zI b), .int (zI n), .int (zI r34)] h42 (fun v h44 => v = none ∧ h44.1 = h42.1 ∧ Q (some (.int (zI (h44.2.1 1 1)))) h44))))))) ∧ (¬ (r29 = 0) → False)))))) ∧ (¬ (n ≤ (h2.2.1 pp 3)) → False)))))))) :
    fx_Mt l M_FP_write (0, 0) [.ref 0, .int (zI s), .int (zI b), .int (zI n)] h Q := by
  refine fx_entry (ls := [some (.ref 0), some (.int (zI s)), some (.int (zI b)), some (.int (zI n)), none]) (by decide) (Nat.le_of_ble_eq_true rfl) rfl ?_
  refine fx_iload_n (i := 1) d_FP_write_0 rfl rfl ?_
  obtain ⟨hz1, H⟩ := H
  refine fx_i2l d_FP_write_1 hz1 ?_
  refine fx_callS (M' := M_FP_isScheme) (B' := (0, 0)) (vs := [.long (zL s)]) (rest := []) (c1 := 0) (s1 := 0) (n := 5) d_FP_write_2 ca_FP_write_128 rfl rfl ⟨by decide, by decide⟩ (Nat.le_of_ble_eq_true rfl) (Or.inl rfl) (fx_Mt.mono H fun v h2 hv => ?_)
  obtain ⟨r4, rfl, e3, H⟩ := hv
  have hS2 := e3.trans hS
  have hp2 : h2.1[pp]? = some (hp_a, .inl (10, [some (pp + 1), none, none, none])) := by rw [e3]; exact hp
  have hx2 : h2.1[(pp + 1)]? = some (hx_a, .inr (0, 960)) := by rw [e3]; exact hx
  have hd2 : h2.1[dd]? = some (hd_a, .inl (10, [some (dd + 1), none, none, none])) := by rw [e3]; exact hd
  have hy2 : h2.1[(dd + 1)]? = some (hy_a, .inr (0, 960)) := by rw [e3]; exact hy
  show fx_V l M_FP_write (0, 0) Q 0 0 5 [some (.ref 0), some (.int (zI s)), some (.int (zI b)), some (.int (zI n)), none] [.int (zI r4)] h2
  obtain ⟨hz5, H⟩ := H
  refine fx_if_eq (t := 24) (n := 8) d_FP_write_5 hz5 (fun z6 => ?_) (fun z6 => ?_)
  · replace H := H.1 z6
    exact H.elim
  · replace H := H.2 z6
    refine fx_iload_n (i := 3) d_FP_write_8 rfl rfl ?_
    refine fx_iconst d_FP_write_9 ?_
    obtain ⟨hz7, H⟩ := H
    refine fx_icmp_lt (t := 24) (n := 13) d_FP_write_10 hz7 (show zR 1 by decide) (fun z8 => ?_) (fun z8 => ?_)
    · replace H := H.1 z8
      exact H.elim
    · replace H := H.2 z8
      refine fx_iload_n (i := 3) d_FP_write_13 rfl rfl ?_
      refine fx_aload_n (i := 0) d_FP_write_14 rfl rfl ?_
      refine fx_getR (q := pp) d_FP_write_15 lk_FP_77 (at_0 (h := _) hS2) rfl rfl ?_
      refine fx_getI d_FP_write_18 lk_FP_118 hp2 rfl ?_
      obtain ⟨hz9, H⟩ := H
      refine fx_icmp_le (t := 32) (n := 24) d_FP_write_21 hz7 hz9 (fun z10 => ?_) (fun z10 => ?_)
      · replace H := H.1 z10
        refine fx_aload_n (i := 0) d_FP_write_32 rfl rfl ?_
        refine fx_getR (q := pp) d_FP_write_33 lk_FP_77 (at_0 (h := _) hS2) rfl rfl ?_
        refine fx_getI d_FP_write_36 lk_FP_102 hp2 rfl ?_
        obtain ⟨hz11, H⟩ := H
        refine fx_if_eq (t := 58) (n := 42) d_FP_write_39 hz11 (fun z12 => ?_) (fun z12 => ?_)
        · replace H := H.1 z12
          refine fx_aload_n (i := 0) d_FP_write_58 rfl rfl ?_
          refine fx_getR (q := pp) d_FP_write_59 lk_FP_77 (at_0 (h := _) hS2) rfl rfl ?_
          refine fx_getI d_FP_write_62 lk_FP_118 hp2 rfl ?_
          refine fx_iload_n (i := 3) d_FP_write_65 rfl rfl ?_
          refine fx_callS (M' := M_FP_stripsOf) (B' := (0, 0)) (vs := [.int (zI (h2.2.1 pp 3)), .int (zI n)]) (rest := []) (c1 := 0) (s1 := 0) (n := 69) d_FP_write_66 ca_FP_write_138 rfl rfl ⟨by decide, by decide⟩ (Nat.le_of_ble_eq_true rfl) (Or.inl rfl) (fx_Mt.mono H fun v h13 hv => ?_)
          obtain ⟨r15, rfl, e14, H⟩ := hv
          have hS13 := e14.trans hS2
          have hp13 : h13.1[pp]? = some (hp_a, .inl (10, [some (pp + 1), none, none, none])) := by rw [e14]; exact hp2
          have hx13 : h13.1[(pp + 1)]? = some (hx_a, .inr (0, 960)) := by rw [e14]; exact hx2
          have hd13 : h13.1[dd]? = some (hd_a, .inl (10, [some (dd + 1), none, none, none])) := by rw [e14]; exact hd2
          have hy13 : h13.1[(dd + 1)]? = some (hy_a, .inr (0, 960)) := by rw [e14]; exact hy2
          show fx_V l M_FP_write (0, 0) Q 0 0 69 [some (.ref 0), some (.int (zI s)), some (.int (zI b)), some (.int (zI n)), none] [.int (zI r15)] h13
          refine fx_istore (ls2 := [some (.ref 0), some (.int (zI s)), some (.int (zI b)), some (.int (zI n)), some (.int (zI r15))]) d_FP_write_69 (by decide) rfl ?_
          refine fx_aload_n (i := 0) d_FP_write_71 rfl rfl ?_
          refine fx_getR (q := 1) d_FP_write_72 lk_FP_20 (at_0 (h := _) hS13) rfl rfl ?_
          refine fx_iload_n (i := 2) d_FP_write_75 rfl rfl ?_
          refine fx_callV (M' := M_BY_start) (B' := (0, 0)) (vs := [.int (zI b)]) (rest := []) (c1 := 0) (s1 := 0) (n := 79) d_FP_write_76 ca_FP_write_141 (at_1 (h := _) hS13) rfl rfl rfl ⟨by decide, by decide⟩ (Nat.le_of_ble_eq_true rfl) (Or.inl rfl) (fx_Mt.mono H fun v h16 hv => ?_)
          obtain ⟨rfl, e17, H⟩ := hv
          have hS16 := e17.trans hS13
          have hp16 : h16.1[pp]? = some (hp_a, .inl (10, [some (pp + 1), none, none, none])) := by rw [e17]; exact hp13
          have hx16 : h16.1[(pp + 1)]? = some (hx_a, .inr (0, 960)) := by rw [e17]; exact hx13
          have hd16 : h16.1[dd]? = some (hd_a, .inl (10, [some (dd + 1), none, none, none])) := by rw [e17]; exact hd13
          have hy16 : h16.1[(dd + 1)]? = some (hy_a, .inr (0, 960)) := by rw [e17]; exact hy13
          show fx_V l M_FP_write (0, 0) Q 0 0 79 [some (.ref 0), some (.int (zI s)), some (.int (zI b)), some (.int (zI n)), some (.int (zI r15))] [] h16
          refine fx_aload_n (i := 0) d_FP_write_79 rfl rfl ?_
          refine fx_aload_n (i := 0) d_FP_write_80 rfl rfl ?_
          refine fx_iload_n (i := 1) d_FP_write_81 rfl rfl ?_
          refine fx_callV (M' := M_FP_packingOf) (B' := (0, 0)) (vs := [.int (zI s)]) (rest := [.ref 0]) (c1 := 0) (s1 := 0) (n := 85) d_FP_write_82 ca_FP_write_145 (at_0 (h := _) hS16) rfl rfl rfl ⟨by decide, by decide⟩ (Nat.le_of_ble_eq_true rfl) (Or.inl rfl) (fx_Mt.mono H fun v h18 hv => ?_)
          obtain ⟨q20, rfl, hcq20, e19, H⟩ := hv
          have hS18 := e19.trans hS16
          have hp18 : h18.1[pp]? = some (hp_a, .inl (10, [some (pp + 1), none, none, none])) := by rw [e19]; exact hp16
          have hx18 : h18.1[(pp + 1)]? = some (hx_a, .inr (0, 960)) := by rw [e19]; exact hx16
          have hd18 : h18.1[dd]? = some (hd_a, .inl (10, [some (dd + 1), none, none, none])) := by rw [e19]; exact hd16
          have hy18 : h18.1[(dd + 1)]? = some (hy_a, .inr (0, 960)) := by rw [e19]; exact hy16
          rcases hcq20 with rfl | rfl | rfl | rfl | rfl
          · show fx_V l M_FP_write (0, 0) Q 0 0 85 [some (.ref 0), some (.int (zI s)), some (.int (zI b)), some (.int (zI n)), some (.int (zI r15))] [.ref 13, .ref 0] h18
            refine fx_iload_n (i := 3) d_FP_write_85 rfl rfl ?_
            refine fx_iload d_FP_write_86 rfl ?_
            refine fx_callV (M' := M_FP_packStrips) (B' := (0, 0)) (vs := [.ref 13, .int (zI n), .int (zI r15)]) (rest := []) (c1 := 0) (s1 := 0) (n := 91) d_FP_write_88 ca_FP_write_149 (at_0 (h := _) hS18) rfl rfl rfl ⟨by decide, by decide⟩ (Nat.le_of_ble_eq_true rfl) (Or.inl rfl) (fx_Mt.mono H fun v h21 hv => ?_)
            obtain ⟨rfl, e22, H⟩ := hv
            have hS21 := e22.trans hS18
            have hp21 : h21.1[pp]? = some (hp_a, .inl (10, [some (pp + 1), none, none, none])) := by rw [e22]; exact hp18
            have hx21 : h21.1[(pp + 1)]? = some (hx_a, .inr (0, 960)) := by rw [e22]; exact hx18
            have hd21 : h21.1[dd]? = some (hd_a, .inl (10, [some (dd + 1), none, none, none])) := by rw [e22]; exact hd18
            have hy21 : h21.1[(dd + 1)]? = some (hy_a, .inr (0, 960)) := by rw [e22]; exact hy18
            show fx_V l M_FP_write (0, 0) Q 0 0 91 [some (.ref 0), some (.int (zI s)), some (.int (zI b)), some (.int (zI n)), some (.int (zI r15))] [] h21
            refine fx_aload_n (i := 0) d_FP_write_91 rfl rfl ?_
            refine fx_iload_n (i := 1) d_FP_write_92 rfl rfl ?_
            refine fx_iload_n (i := 3) d_FP_write_93 rfl rfl ?_
            refine fx_iload d_FP_write_94 rfl ?_
            refine fx_callV (M' := M_FP_writeTags) (B' := (0, 0)) (vs := [.int (zI s), .int (zI n), .int (zI r15)]) (rest := []) (c1 := 0) (s1 := 0) (n := 99) d_FP_write_96 ca_FP_write_153 (at_0 (h := _) hS21) rfl rfl rfl ⟨by decide, by decide⟩ (Nat.le_of_ble_eq_true rfl) (Or.inl rfl) (fx_Mt.mono H fun v h23 hv => ?_)
            obtain ⟨rfl, e24, H⟩ := hv
            have hS23 := e24.trans hS21
            have hp23 : h23.1[pp]? = some (hp_a, .inl (10, [some (pp + 1), none, none, none])) := by rw [e24]; exact hp21
            have hx23 : h23.1[(pp + 1)]? = some (hx_a, .inr (0, 960)) := by rw [e24]; exact hx21
            have hd23 : h23.1[dd]? = some (hd_a, .inl (10, [some (dd + 1), none, none, none])) := by rw [e24]; exact hd21
            have hy23 : h23.1[(dd + 1)]? = some (hy_a, .inr (0, 960)) := by rw [e24]; exact hy21
            show fx_V l M_FP_write (0, 0) Q 0 0 99 [some (.ref 0), some (.int (zI s)), some (.int (zI b)), some (.int (zI n)), some (.int (zI r15))] [] h23
            refine fx_aload_n (i := 0) d_FP_write_99 rfl rfl ?_
            refine fx_iload_n (i := 1) d_FP_write_100 rfl rfl ?_
            refine fx_iload_n (i := 2) d_FP_write_101 rfl rfl ?_
            refine fx_iload_n (i := 3) d_FP_write_102 rfl rfl ?_
            refine fx_iload d_FP_write_103 rfl ?_
            refine fx_callV (M' := M_FP_know) (B' := (0, 0)) (vs := [.int (zI s), .int (zI b), .int (zI n), .int (zI r15)]) (rest := []) (c1 := 0) (s1 := 0) (n := 108) d_FP_write_105 ca_FP_write_156 (at_0 (h := _) hS23) rfl rfl rfl ⟨by decide, by decide⟩ (Nat.le_of_ble_eq_true rfl) (Or.inl rfl) (fx_Mt.mono H fun v h25 hv => ?_)
            obtain ⟨rfl, e26, H⟩ := hv
            have hS25 := e26.trans hS23
            have hp25 : h25.1[pp]? = some (hp_a, .inl (10, [some (pp + 1), none, none, none])) := by rw [e26]; exact hp23
            have hx25 : h25.1[(pp + 1)]? = some (hx_a, .inr (0, 960)) := by rw [e26]; exact hx23
            have hd25 : h25.1[dd]? = some (hd_a, .inl (10, [some (dd + 1), none, none, none])) := by rw [e26]; exact hd23
            have hy25 : h25.1[(dd + 1)]? = some (hy_a, .inr (0, 960)) := by rw [e26]; exact hy23
            show fx_V l M_FP_write (0, 0) Q 0 0 108 [some (.ref 0), some (.int (zI s)), some (.int (zI b)), some (.int (zI n)), some (.int (zI r15))] [] h25
            refine fx_aload_n (i := 0) d_FP_write_108 rfl rfl ?_
            refine fx_getR (q := 1) d_FP_write_109 lk_FP_20 (at_0 (h := _) hS25) rfl rfl ?_
            refine fx_getI d_FP_write_112 lk_FP_160 (at_1 (h := _) hS25) rfl ?_
            exact fx_end (some (.int (zI (h25.2.1 1 1)))) ⟨⟨_, rfl, rfl⟩, d_FP_write_115⟩ (Nat.le_refl _) (Nat.le_refl _) rfl H
          · show fx_V l M_FP_write (0, 0) Q 0 0 85 [some (.ref 0), some (.int (zI s)), some (.int (zI b)), some (.int (zI n)), some (.int (zI r15))] [.ref 14, .ref 0] h18
            refine fx_iload_n (i := 3) d_FP_write_85 rfl rfl ?_
            refine fx_iload d_FP_write_86 rfl ?_
            refine fx_callV (M' := M_FP_packStrips) (B' := (0, 0)) (vs := [.ref 14, .int (zI n), .int (zI r15)]) (rest := []) (c1 := 0) (s1 := 0) (n := 91) d_FP_write_88 ca_FP_write_149 (at_0 (h := _) hS18) rfl rfl rfl ⟨by decide, by decide⟩ (Nat.le_of_ble_eq_true rfl) (Or.inl rfl) (fx_Mt.mono H fun v h21 hv => ?_)
            obtain ⟨rfl, e22, H⟩ := hv
            have hS21 := e22.trans hS18
            have hp21 : h21.1[pp]? = some (hp_a, .inl (10, [some (pp + 1), none, none, none])) := by rw [e22]; exact hp18
            have hx21 : h21.1[(pp + 1)]? = some (hx_a, .inr (0, 960)) := by rw [e22]; exact hx18
            have hd21 : h21.1[dd]? = some (hd_a, .inl (10, [some (dd + 1), none, none, none])) := by rw [e22]; exact hd18
            have hy21 : h21.1[(dd + 1)]? = some (hy_a, .inr (0, 960)) := by rw [e22]; exact hy18
            show fx_V l M_FP_write (0, 0) Q 0 0 91 [some (.ref 0), some (.int (zI s)), some (.int (zI b)), some (.int (zI n)), some (.int (zI r15))] [] h21
            refine fx_aload_n (i := 0) d_FP_write_91 rfl rfl ?_
            refine fx_iload_n (i := 1) d_FP_write_92 rfl rfl ?_
            refine fx_iload_n (i := 3) d_FP_write_93 rfl rfl ?_
            refine fx_iload d_FP_write_94 rfl ?_
            refine fx_callV (M' := M_FP_writeTags) (B' := (0, 0)) (vs := [.int (zI s), .int (zI n), .int (zI r15)]) (rest := []) (c1 := 0) (s1 := 0) (n := 99) d_FP_write_96 ca_FP_write_153 (at_0 (h := _) hS21) rfl rfl rfl ⟨by decide, by decide⟩ (Nat.le_of_ble_eq_true rfl) (Or.inl rfl) (fx_Mt.mono H fun v h23 hv => ?_)
            obtain ⟨rfl, e24, H⟩ := hv
            have hS23 := e24.trans hS21
            have hp23 : h23.1[pp]? = some (hp_a, .inl (10, [some (pp + 1), none, none, none])) := by rw [e24]; exact hp21
            have hx23 : h23.1[(pp + 1)]? = some (hx_a, .inr (0, 960)) := by rw [e24]; exact hx21
            have hd23 : h23.1[dd]? = some (hd_a, .inl (10, [some (dd + 1), none, none, none])) := by rw [e24]; exact hd21
            have hy23 : h23.1[(dd + 1)]? = some (hy_a, .inr (0, 960)) := by rw [e24]; exact hy21
            show fx_V l M_FP_write (0, 0) Q 0 0 99 [some (.ref 0), some (.int (zI s)), some (.int (zI b)), some (.int (zI n)), some (.int (zI r15))] [] h23
            refine fx_aload_n (i := 0) d_FP_write_99 rfl rfl ?_
            refine fx_iload_n (i := 1) d_FP_write_100 rfl rfl ?_
            refine fx_iload_n (i := 2) d_FP_write_101 rfl rfl ?_
            refine fx_iload_n (i := 3) d_FP_write_102 rfl rfl ?_
            refine fx_iload d_FP_write_103 rfl ?_
            refine fx_callV (M' := M_FP_know) (B' := (0, 0)) (vs := [.int (zI s), .int (zI b), .int (zI n), .int (zI r15)]) (rest := []) (c1 := 0) (s1 := 0) (n := 108) d_FP_write_105 ca_FP_write_156 (at_0 (h := _) hS23) rfl rfl rfl ⟨by decide, by decide⟩ (Nat.le_of_ble_eq_true rfl) (Or.inl rfl) (fx_Mt.mono H fun v h25 hv => ?_)
            obtain ⟨rfl, e26, H⟩ := hv
            have hS25 := e26.trans hS23
            have hp25 : h25.1[pp]? = some (hp_a, .inl (10, [some (pp + 1), none, none, none])) := by rw [e26]; exact hp23
            have hx25 : h25.1[(pp + 1)]? = some (hx_a, .inr (0, 960)) := by rw [e26]; exact hx23
            have hd25 : h25.1[dd]? = some (hd_a, .inl (10, [some (dd + 1), none, none, none])) := by rw [e26]; exact hd23
            have hy25 : h25.1[(dd + 1)]? = some (hy_a, .inr (0, 960)) := by rw [e26]; exact hy23
            show fx_V l M_FP_write (0, 0) Q 0 0 108 [some (.ref 0), some (.int (zI s)), some (.int (zI b)), some (.int (zI n)), some (.int (zI r15))] [] h25
            refine fx_aload_n (i := 0) d_FP_write_108 rfl rfl ?_
            refine fx_getR (q := 1) d_FP_write_109 lk_FP_20 (at_0 (h := _) hS25) rfl rfl ?_
            refine fx_getI d_FP_write_112 lk_FP_160 (at_1 (h := _) hS25) rfl ?_
            exact fx_end (some (.int (zI (h25.2.1 1 1)))) ⟨⟨_, rfl, rfl⟩, d_FP_write_115⟩ (Nat.le_refl _) (Nat.le_refl _) rfl H
          · show fx_V l M_FP_write (0, 0) Q 0 0 85 [some (.ref 0), some (.int (zI s)), some (.int (zI b)), some (.int (zI n)), some (.int (zI r15))] [.ref 16, .ref 0] h18
            refine fx_iload_n (i := 3) d_FP_write_85 rfl rfl ?_
            refine fx_iload d_FP_write_86 rfl ?_
            refine fx_callV (M' := M_FP_packStrips) (B' := (0, 0)) (vs := [.ref 16, .int (zI n), .int (zI r15)]) (rest := []) (c1 := 0) (s1 := 0) (n := 91) d_FP_write_88 ca_FP_write_149 (at_0 (h := _) hS18) rfl rfl rfl ⟨by decide, by decide⟩ (Nat.le_of_ble_eq_true rfl) (Or.inl rfl) (fx_Mt.mono H fun v h21 hv => ?_)
            obtain ⟨rfl, e22, H⟩ := hv
            have hS21 := e22.trans hS18
            have hp21 : h21.1[pp]? = some (hp_a, .inl (10, [some (pp + 1), none, none, none])) := by rw [e22]; exact hp18
            have hx21 : h21.1[(pp + 1)]? = some (hx_a, .inr (0, 960)) := by rw [e22]; exact hx18
            have hd21 : h21.1[dd]? = some (hd_a, .inl (10, [some (dd + 1), none, none, none])) := by rw [e22]; exact hd18
            have hy21 : h21.1[(dd + 1)]? = some (hy_a, .inr (0, 960)) := by rw [e22]; exact hy18
            show fx_V l M_FP_write (0, 0) Q 0 0 91 [some (.ref 0), some (.int (zI s)), some (.int (zI b)), some (.int (zI n)), some (.int (zI r15))] [] h21
            refine fx_aload_n (i := 0) d_FP_write_91 rfl rfl ?_
            refine fx_iload_n (i := 1) d_FP_write_92 rfl rfl ?_
            refine fx_iload_n (i := 3) d_FP_write_93 rfl rfl ?_
            refine fx_iload d_FP_write_94 rfl ?_
            refine fx_callV (M' := M_FP_writeTags) (B' := (0, 0)) (vs := [.int (zI s), .int (zI n), .int (zI r15)]) (rest := []) (c1 := 0) (s1 := 0) (n := 99) d_FP_write_96 ca_FP_write_153 (at_0 (h := _) hS21) rfl rfl rfl ⟨by decide, by decide⟩ (Nat.le_of_ble_eq_true rfl) (Or.inl rfl) (fx_Mt.mono H fun v h23 hv => ?_)
            obtain ⟨rfl, e24, H⟩ := hv
            have hS23 := e24.trans hS21
            have hp23 : h23.1[pp]? = some (hp_a, .inl (10, [some (pp + 1), none, none, none])) := by rw [e24]; exact hp21
            have hx23 : h23.1[(pp + 1)]? = some (hx_a, .inr (0, 960)) := by rw [e24]; exact hx21
            have hd23 : h23.1[dd]? = some (hd_a, .inl (10, [some (dd + 1), none, none, none])) := by rw [e24]; exact hd21
            have hy23 : h23.1[(dd + 1)]? = some (hy_a, .inr (0, 960)) := by rw [e24]; exact hy21
            show fx_V l M_FP_write (0, 0) Q 0 0 99 [some (.ref 0), some (.int (zI s)), some (.int (zI b)), some (.int (zI n)), some (.int (zI r15))] [] h23
            refine fx_aload_n (i := 0) d_FP_write_99 rfl rfl ?_
            refine fx_iload_n (i := 1) d_FP_write_100 rfl rfl ?_
            refine fx_iload_n (i := 2) d_FP_write_101 rfl rfl ?_
            refine fx_iload_n (i := 3) d_FP_write_102 rfl rfl ?_
            refine fx_iload d_FP_write_103 rfl ?_
            refine fx_callV (M' := M_FP_know) (B' := (0, 0)) (vs := [.int (zI s), .int (zI b), .int (zI n), .int (zI r15)]) (rest := []) (c1 := 0) (s1 := 0) (n := 108) d_FP_write_105 ca_FP_write_156 (at_0 (h := _) hS23) rfl rfl rfl ⟨by decide, by decide⟩ (Nat.le_of_ble_eq_true rfl) (Or.inl rfl) (fx_Mt.mono H fun v h25 hv => ?_)
            obtain ⟨rfl, e26, H⟩ := hv
            have hS25 := e26.trans hS23
            have hp25 : h25.1[pp]? = some (hp_a, .inl (10, [some (pp + 1), none, none, none])) := by rw [e26]; exact hp23
            have hx25 : h25.1[(pp + 1)]? = some (hx_a, .inr (0, 960)) := by rw [e26]; exact hx23
            have hd25 : h25.1[dd]? = some (hd_a, .inl (10, [some (dd + 1), none, none, none])) := by rw [e26]; exact hd23
            have hy25 : h25.1[(dd + 1)]? = some (hy_a, .inr (0, 960)) := by rw [e26]; exact hy23
            show fx_V l M_FP_write (0, 0) Q 0 0 108 [some (.ref 0), some (.int (zI s)), some (.int (zI b)), some (.int (zI n)), some (.int (zI r15))] [] h25
            refine fx_aload_n (i := 0) d_FP_write_108 rfl rfl ?_
            refine fx_getR (q := 1) d_FP_write_109 lk_FP_20 (at_0 (h := _) hS25) rfl rfl ?_
            refine fx_getI d_FP_write_112 lk_FP_160 (at_1 (h := _) hS25) rfl ?_
            exact fx_end (some (.int (zI (h25.2.1 1 1)))) ⟨⟨_, rfl, rfl⟩, d_FP_write_115⟩ (Nat.le_refl _) (Nat.le_refl _) rfl H
          · show fx_V l M_FP_write (0, 0) Q 0 0 85 [some (.ref 0), some (.int (zI s)), some (.int (zI b)), some (.int (zI n)), some (.int (zI r15))] [.ref 23, .ref 0] h18
            refine fx_iload_n (i := 3) d_FP_write_85 rfl rfl ?_
            refine fx_iload d_FP_write_86 rfl ?_
            refine fx_callV (M' := M_FP_packStrips) (B' := (0, 0)) (vs := [.ref 23, .int (zI n), .int (zI r15)]) (rest := []) (c1 := 0) (s1 := 0) (n := 91) d_FP_write_88 ca_FP_write_149 (at_0 (h := _) hS18) rfl rfl rfl ⟨by decide, by decide⟩ (Nat.le_of_ble_eq_true rfl) (Or.inl rfl) (fx_Mt.mono H fun v h21 hv => ?_)
            obtain ⟨rfl, e22, H⟩ := hv
            have hS21 := e22.trans hS18
            have hp21 : h21.1[pp]? = some (hp_a, .inl (10, [some (pp + 1), none, none, none])) := by rw [e22]; exact hp18
            have hx21 : h21.1[(pp + 1)]? = some (hx_a, .inr (0, 960)) := by rw [e22]; exact hx18
            have hd21 : h21.1[dd]? = some (hd_a, .inl (10, [some (dd + 1), none, none, none])) := by rw [e22]; exact hd18
            have hy21 : h21.1[(dd + 1)]? = some (hy_a, .inr (0, 960)) := by rw [e22]; exact hy18
            show fx_V l M_FP_write (0, 0) Q 0 0 91 [some (.ref 0), some (.int (zI s)), some (.int (zI b)), some (.int (zI n)), some (.int (zI r15))] [] h21
            refine fx_aload_n (i := 0) d_FP_write_91 rfl rfl ?_
            refine fx_iload_n (i := 1) d_FP_write_92 rfl rfl ?_
            refine fx_iload_n (i := 3) d_FP_write_93 rfl rfl ?_
            refine fx_iload d_FP_write_94 rfl ?_
            refine fx_callV (M' := M_FP_writeTags) (B' := (0, 0)) (vs := [.int (zI s), .int (zI n), .int (zI r15)]) (rest := []) (c1 := 0) (s1 := 0) (n := 99) d_FP_write_96 ca_FP_write_153 (at_0 (h := _) hS21) rfl rfl rfl ⟨by decide, by decide⟩ (Nat.le_of_ble_eq_true rfl) (Or.inl rfl) (fx_Mt.mono H fun v h23 hv => ?_)
            obtain ⟨rfl, e24, H⟩ := hv
            have hS23 := e24.trans hS21
            have hp23 : h23.1[pp]? = some (hp_a, .inl (10, [some (pp + 1), none, none, none])) := by rw [e24]; exact hp21
            have hx23 : h23.1[(pp + 1)]? = some (hx_a, .inr (0, 960)) := by rw [e24]; exact hx21
            have hd23 : h23.1[dd]? = some (hd_a, .inl (10, [some (dd + 1), none, none, none])) := by rw [e24]; exact hd21
            have hy23 : h23.1[(dd + 1)]? = some (hy_a, .inr (0, 960)) := by rw [e24]; exact hy21
            show fx_V l M_FP_write (0, 0) Q 0 0 99 [some (.ref 0), some (.int (zI s)), some (.int (zI b)), some (.int (zI n)), some (.int (zI r15))] [] h23
            refine fx_aload_n (i := 0) d_FP_write_99 rfl rfl ?_
            refine fx_iload_n (i := 1) d_FP_write_100 rfl rfl ?_
            refine fx_iload_n (i := 2) d_FP_write_101 rfl rfl ?_
            refine fx_iload_n (i := 3) d_FP_write_102 rfl rfl ?_
            refine fx_iload d_FP_write_103 rfl ?_
            refine fx_callV (M' := M_FP_know) (B' := (0, 0)) (vs := [.int (zI s), .int (zI b), .int (zI n), .int (zI r15)]) (rest := []) (c1 := 0) (s1 := 0) (n := 108) d_FP_write_105 ca_FP_write_156 (at_0 (h := _) hS23) rfl rfl rfl ⟨by decide, by decide⟩ (Nat.le_of_ble_eq_true rfl) (Or.inl rfl) (fx_Mt.mono H fun v h25 hv => ?_)
            obtain ⟨rfl, e26, H⟩ := hv
            have hS25 := e26.trans hS23
            have hp25 : h25.1[pp]? = some (hp_a, .inl (10, [some (pp + 1), none, none, none])) := by rw [e26]; exact hp23
            have hx25 : h25.1[(pp + 1)]? = some (hx_a, .inr (0, 960)) := by rw [e26]; exact hx23
            have hd25 : h25.1[dd]? = some (hd_a, .inl (10, [some (dd + 1), none, none, none])) := by rw [e26]; exact hd23
            have hy25 : h25.1[(dd + 1)]? = some (hy_a, .inr (0, 960)) := by rw [e26]; exact hy23
            show fx_V l M_FP_write (0, 0) Q 0 0 108 [some (.ref 0), some (.int (zI s)), some (.int (zI b)), some (.int (zI n)), some (.int (zI r15))] [] h25
            refine fx_aload_n (i := 0) d_FP_write_108 rfl rfl ?_
            refine fx_getR (q := 1) d_FP_write_109 lk_FP_20 (at_0 (h := _) hS25) rfl rfl ?_
            refine fx_getI d_FP_write_112 lk_FP_160 (at_1 (h := _) hS25) rfl ?_
            exact fx_end (some (.int (zI (h25.2.1 1 1)))) ⟨⟨_, rfl, rfl⟩, d_FP_write_115⟩ (Nat.le_refl _) (Nat.le_refl _) rfl H
          · show fx_V l M_FP_write (0, 0) Q 0 0 85 [some (.ref 0), some (.int (zI s)), some (.int (zI b)), some (.int (zI n)), some (.int (zI r15))] [.ref 24, .ref 0] h18
            refine fx_iload_n (i := 3) d_FP_write_85 rfl rfl ?_
            refine fx_iload d_FP_write_86 rfl ?_
            refine fx_callV (M' := M_FP_packStrips) (B' := (0, 0)) (vs := [.ref 24, .int (zI n), .int (zI r15)]) (rest := []) (c1 := 0) (s1 := 0) (n := 91) d_FP_write_88 ca_FP_write_149 (at_0 (h := _) hS18) rfl rfl rfl ⟨by decide, by decide⟩ (Nat.le_of_ble_eq_true rfl) (Or.inl rfl) (fx_Mt.mono H fun v h21 hv => ?_)
            obtain ⟨rfl, e22, H⟩ := hv
            have hS21 := e22.trans hS18
            have hp21 : h21.1[pp]? = some (hp_a, .inl (10, [some (pp + 1), none, none, none])) := by rw [e22]; exact hp18
            have hx21 : h21.1[(pp + 1)]? = some (hx_a, .inr (0, 960)) := by rw [e22]; exact hx18
            have hd21 : h21.1[dd]? = some (hd_a, .inl (10, [some (dd + 1), none, none, none])) := by rw [e22]; exact hd18
            have hy21 : h21.1[(dd + 1)]? = some (hy_a, .inr (0, 960)) := by rw [e22]; exact hy18
            show fx_V l M_FP_write (0, 0) Q 0 0 91 [some (.ref 0), some (.int (zI s)), some (.int (zI b)), some (.int (zI n)), some (.int (zI r15))] [] h21
            refine fx_aload_n (i := 0) d_FP_write_91 rfl rfl ?_
            refine fx_iload_n (i := 1) d_FP_write_92 rfl rfl ?_
            refine fx_iload_n (i := 3) d_FP_write_93 rfl rfl ?_
            refine fx_iload d_FP_write_94 rfl ?_
            refine fx_callV (M' := M_FP_writeTags) (B' := (0, 0)) (vs := [.int (zI s), .int (zI n), .int (zI r15)]) (rest := []) (c1 := 0) (s1 := 0) (n := 99) d_FP_write_96 ca_FP_write_153 (at_0 (h := _) hS21) rfl rfl rfl ⟨by decide, by decide⟩ (Nat.le_of_ble_eq_true rfl) (Or.inl rfl) (fx_Mt.mono H fun v h23 hv => ?_)
            obtain ⟨rfl, e24, H⟩ := hv
            have hS23 := e24.trans hS21
            have hp23 : h23.1[pp]? = some (hp_a, .inl (10, [some (pp + 1), none, none, none])) := by rw [e24]; exact hp21
            have hx23 : h23.1[(pp + 1)]? = some (hx_a, .inr (0, 960)) := by rw [e24]; exact hx21
            have hd23 : h23.1[dd]? = some (hd_a, .inl (10, [some (dd + 1), none, none, none])) := by rw [e24]; exact hd21
            have hy23 : h23.1[(dd + 1)]? = some (hy_a, .inr (0, 960)) := by rw [e24]; exact hy21
            show fx_V l M_FP_write (0, 0) Q 0 0 99 [some (.ref 0), some (.int (zI s)), some (.int (zI b)), some (.int (zI n)), some (.int (zI r15))] [] h23
            refine fx_aload_n (i := 0) d_FP_write_99 rfl rfl ?_
            refine fx_iload_n (i := 1) d_FP_write_100 rfl rfl ?_
            refine fx_iload_n (i := 2) d_FP_write_101 rfl rfl ?_
            refine fx_iload_n (i := 3) d_FP_write_102 rfl rfl ?_
            refine fx_iload d_FP_write_103 rfl ?_
            refine fx_callV (M' := M_FP_know) (B' := (0, 0)) (vs := [.int (zI s), .int (zI b), .int (zI n), .int (zI r15)]) (rest := []) (c1 := 0) (s1 := 0) (n := 108) d_FP_write_105 ca_FP_write_156 (at_0 (h := _) hS23) rfl rfl rfl ⟨by decide, by decide⟩ (Nat.le_of_ble_eq_true rfl) (Or.inl rfl) (fx_Mt.mono H fun v h25 hv => ?_)
            obtain ⟨rfl, e26, H⟩ := hv
            have hS25 := e26.trans hS23
            have hp25 : h25.1[pp]? = some (hp_a, .inl (10, [some (pp + 1), none, none, none])) := by rw [e26]; exact hp23
            have hx25 : h25.1[(pp + 1)]? = some (hx_a, .inr (0, 960)) := by rw [e26]; exact hx23
            have hd25 : h25.1[dd]? = some (hd_a, .inl (10, [some (dd + 1), none, none, none])) := by rw [e26]; exact hd23
            have hy25 : h25.1[(dd + 1)]? = some (hy_a, .inr (0, 960)) := by rw [e26]; exact hy23
            show fx_V l M_FP_write (0, 0) Q 0 0 108 [some (.ref 0), some (.int (zI s)), some (.int (zI b)), some (.int (zI n)), some (.int (zI r15))] [] h25
            refine fx_aload_n (i := 0) d_FP_write_108 rfl rfl ?_
            refine fx_getR (q := 1) d_FP_write_109 lk_FP_20 (at_0 (h := _) hS25) rfl rfl ?_
            refine fx_getI d_FP_write_112 lk_FP_160 (at_1 (h := _) hS25) rfl ?_
            exact fx_end (some (.int (zI (h25.2.1 1 1)))) ⟨⟨_, rfl, rfl⟩, d_FP_write_115⟩ (Nat.le_refl _) (Nat.le_refl _) rfl H
        · replace H := H.2 z12
          refine fx_iload_n (i := 1) d_FP_write_42 rfl rfl ?_
          refine fx_i2l d_FP_write_43 hz1 ?_
          refine fx_callS (M' := M_FP_isFax) (B' := (0, 0)) (vs := [.long (zL s)]) (rest := []) (c1 := 0) (s1 := 0) (n := 47) d_FP_write_44 ca_FP_write_132 rfl rfl ⟨by decide, by decide⟩ (Nat.le_of_ble_eq_true rfl) (Or.inl rfl) (fx_Mt.mono H fun v h27 hv => ?_)
          obtain ⟨r29, rfl, e28, H⟩ := hv
          have hS27 := e28.trans hS2
          have hp27 : h27.1[pp]? = some (hp_a, .inl (10, [some (pp + 1), none, none, none])) := by rw [e28]; exact hp2
          have hx27 : h27.1[(pp + 1)]? = some (hx_a, .inr (0, 960)) := by rw [e28]; exact hx2
          have hd27 : h27.1[dd]? = some (hd_a, .inl (10, [some (dd + 1), none, none, none])) := by rw [e28]; exact hd2
          have hy27 : h27.1[(dd + 1)]? = some (hy_a, .inr (0, 960)) := by rw [e28]; exact hy2
          show fx_V l M_FP_write (0, 0) Q 0 0 47 [some (.ref 0), some (.int (zI s)), some (.int (zI b)), some (.int (zI n)), none] [.int (zI r29)] h27
          obtain ⟨hz30, H⟩ := H
          refine fx_if_eq (t := 58) (n := 50) d_FP_write_47 hz30 (fun z31 => ?_) (fun z31 => ?_)
          · replace H := H.1 z31
            refine fx_aload_n (i := 0) d_FP_write_58 rfl rfl ?_
            refine fx_getR (q := pp) d_FP_write_59 lk_FP_77 (at_0 (h := _) hS27) rfl rfl ?_
            refine fx_getI d_FP_write_62 lk_FP_118 hp27 rfl ?_
            refine fx_iload_n (i := 3) d_FP_write_65 rfl rfl ?_
            refine fx_callS (M' := M_FP_stripsOf) (B' := (0, 0)) (vs := [.int (zI (h27.2.1 pp 3)), .int (zI n)]) (rest := []) (c1 := 0) (s1 := 0) (n := 69) d_FP_write_66 ca_FP_write_138 rfl rfl ⟨by decide, by decide⟩ (Nat.le_of_ble_eq_true rfl) (Or.inl rfl) (fx_Mt.mono H fun v h32 hv => ?_)
            obtain ⟨r34, rfl, e33, H⟩ := hv
            have hS32 := e33.trans hS27
            have hp32 : h32.1[pp]? = some (hp_a, .inl (10, [some (pp + 1), none, none, none])) := by rw [e33]; exact hp27
            have hx32 : h32.1[(pp + 1)]? = some (hx_a, .inr (0, 960)) := by rw [e33]; exact hx27
            have hd32 : h32.1[dd]? = some (hd_a, .inl (10, [some (dd + 1), none, none, none])) := by rw [e33]; exact hd27
            have hy32 : h32.1[(dd + 1)]? = some (hy_a, .inr (0, 960)) := by rw [e33]; exact hy27
            show fx_V l M_FP_write (0, 0) Q 0 0 69 [some (.ref 0), some (.int (zI s)), some (.int (zI b)), some (.int (zI n)), none] [.int (zI r34)] h32
            refine fx_istore (ls2 := [some (.ref 0), some (.int (zI s)), some (.int (zI b)), some (.int (zI n)), some (.int (zI r34))]) d_FP_write_69 (by decide) rfl ?_
            refine fx_aload_n (i := 0) d_FP_write_71 rfl rfl ?_
            refine fx_getR (q := 1) d_FP_write_72 lk_FP_20 (at_0 (h := _) hS32) rfl rfl ?_
            refine fx_iload_n (i := 2) d_FP_write_75 rfl rfl ?_
            refine fx_callV (M' := M_BY_start) (B' := (0, 0)) (vs := [.int (zI b)]) (rest := []) (c1 := 0) (s1 := 0) (n := 79) d_FP_write_76 ca_FP_write_141 (at_1 (h := _) hS32) rfl rfl rfl ⟨by decide, by decide⟩ (Nat.le_of_ble_eq_true rfl) (Or.inl rfl) (fx_Mt.mono H fun v h35 hv => ?_)
            obtain ⟨rfl, e36, H⟩ := hv
            have hS35 := e36.trans hS32
            have hp35 : h35.1[pp]? = some (hp_a, .inl (10, [some (pp + 1), none, none, none])) := by rw [e36]; exact hp32
            have hx35 : h35.1[(pp + 1)]? = some (hx_a, .inr (0, 960)) := by rw [e36]; exact hx32
            have hd35 : h35.1[dd]? = some (hd_a, .inl (10, [some (dd + 1), none, none, none])) := by rw [e36]; exact hd32
            have hy35 : h35.1[(dd + 1)]? = some (hy_a, .inr (0, 960)) := by rw [e36]; exact hy32
            show fx_V l M_FP_write (0, 0) Q 0 0 79 [some (.ref 0), some (.int (zI s)), some (.int (zI b)), some (.int (zI n)), some (.int (zI r34))] [] h35
            refine fx_aload_n (i := 0) d_FP_write_79 rfl rfl ?_
            refine fx_aload_n (i := 0) d_FP_write_80 rfl rfl ?_
            refine fx_iload_n (i := 1) d_FP_write_81 rfl rfl ?_
            refine fx_callV (M' := M_FP_packingOf) (B' := (0, 0)) (vs := [.int (zI s)]) (rest := [.ref 0]) (c1 := 0) (s1 := 0) (n := 85) d_FP_write_82 ca_FP_write_145 (at_0 (h := _) hS35) rfl rfl rfl ⟨by decide, by decide⟩ (Nat.le_of_ble_eq_true rfl) (Or.inl rfl) (fx_Mt.mono H fun v h37 hv => ?_)
            obtain ⟨q39, rfl, hcq39, e38, H⟩ := hv
            have hS37 := e38.trans hS35
            have hp37 : h37.1[pp]? = some (hp_a, .inl (10, [some (pp + 1), none, none, none])) := by rw [e38]; exact hp35
            have hx37 : h37.1[(pp + 1)]? = some (hx_a, .inr (0, 960)) := by rw [e38]; exact hx35
            have hd37 : h37.1[dd]? = some (hd_a, .inl (10, [some (dd + 1), none, none, none])) := by rw [e38]; exact hd35
            have hy37 : h37.1[(dd + 1)]? = some (hy_a, .inr (0, 960)) := by rw [e38]; exact hy35
            rcases hcq39 with rfl | rfl | rfl | rfl | rfl
            · show fx_V l M_FP_write (0, 0) Q 0 0 85 [some (.ref 0), some (.int (zI s)), some (.int (zI b)), some (.int (zI n)), some (.int (zI r34))] [.ref 13, .ref 0] h37
              refine fx_iload_n (i := 3) d_FP_write_85 rfl rfl ?_
              refine fx_iload d_FP_write_86 rfl ?_
              refine fx_callV (M' := M_FP_packStrips) (B' := (0, 0)) (vs := [.ref 13, .int (zI n), .int (zI r34)]) (rest := []) (c1 := 0) (s1 := 0) (n := 91) d_FP_write_88 ca_FP_write_149 (at_0 (h := _) hS37) rfl rfl rfl ⟨by decide, by decide⟩ (Nat.le_of_ble_eq_true rfl) (Or.inl rfl) (fx_Mt.mono H fun v h40 hv => ?_)
              obtain ⟨rfl, e41, H⟩ := hv
              have hS40 := e41.trans hS37
              have hp40 : h40.1[pp]? = some (hp_a, .inl (10, [some (pp + 1), none, none, none])) := by rw [e41]; exact hp37
              have hx40 : h40.1[(pp + 1)]? = some (hx_a, .inr (0, 960)) := by rw [e41]; exact hx37
              have hd40 : h40.1[dd]? = some (hd_a, .inl (10, [some (dd + 1), none, none, none])) := by rw [e41]; exact hd37
              have hy40 : h40.1[(dd + 1)]? = some (hy_a, .inr (0, 960)) := by rw [e41]; exact hy37
              show fx_V l M_FP_write (0, 0) Q 0 0 91 [some (.ref 0), some (.int (zI s)), some (.int (zI b)), some (.int (zI n)), some (.int (zI r34))] [] h40
              refine fx_aload_n (i := 0) d_FP_write_91 rfl rfl ?_
              refine fx_iload_n (i := 1) d_FP_write_92 rfl rfl ?_
              refine fx_iload_n (i := 3) d_FP_write_93 rfl rfl ?_
              refine fx_iload d_FP_write_94 rfl ?_
              refine fx_callV (M' := M_FP_writeTags) (B' := (0, 0)) (vs := [.int (zI s), .int (zI n), .int (zI r34)]) (rest := []) (c1 := 0) (s1 := 0) (n := 99) d_FP_write_96 ca_FP_write_153 (at_0 (h := _) hS40) rfl rfl rfl ⟨by decide, by decide⟩ (Nat.le_of_ble_eq_true rfl) (Or.inl rfl) (fx_Mt.mono H fun v h42 hv => ?_)
              obtain ⟨rfl, e43, H⟩ := hv
              have hS42 := e43.trans hS40
              have hp42 : h42.1[pp]? = some (hp_a, .inl (10, [some (pp + 1), none, none, none])) := by rw [e43]; exact hp40
              have hx42 : h42.1[(pp + 1)]? = some (hx_a, .inr (0, 960)) := by rw [e43]; exact hx40
              have hd42 : h42.1[dd]? = some (hd_a, .inl (10, [some (dd + 1), none, none, none])) := by rw [e43]; exact hd40
              have hy42 : h42.1[(dd + 1)]? = some (hy_a, .inr (0, 960)) := by rw [e43]; exact hy40
              show fx_V l M_FP_write (0, 0) Q 0 0 99 [some (.ref 0), some (.int (zI s)), some (.int (zI b)), some (.int (zI n)), some (.int (zI r34))] [] h42
              refine fx_aload_n (i := 0) d_FP_write_99 rfl rfl ?_
              refine fx_iload_n (i := 1) d_FP_write_100 rfl rfl ?_
              refine fx_iload_n (i := 2) d_FP_write_101 rfl rfl ?_
              refine fx_iload_n (i := 3) d_FP_write_102 rfl rfl ?_
              refine fx_iload d_FP_write_103 rfl ?_
              refine fx_callV (M' := M_FP_know) (B' := (0, 0)) (vs := [.int (zI s), .int (zI b), .int (zI n), .int (zI r34)]) (rest := []) (c1 := 0) (s1 := 0) (n := 108) d_FP_write_105 ca_FP_write_156 (at_0 (h := _) hS42) rfl rfl rfl ⟨by decide, by decide⟩ (Nat.le_of_ble_eq_true rfl) (Or.inl rfl) (fx_Mt.mono H fun v h44 hv => ?_)
              obtain ⟨rfl, e45, H⟩ := hv
              have hS44 := e45.trans hS42
              have hp44 : h44.1[pp]? = some (hp_a, .inl (10, [some (pp + 1), none, none, none])) := by rw [e45]; exact hp42
              have hx44 : h44.1[(pp + 1)]? = some (hx_a, .inr (0, 960)) := by rw [e45]; exact hx42
              have hd44 : h44.1[dd]? = some (hd_a, .inl (10, [some (dd + 1), none, none, none])) := by rw [e45]; exact hd42
              have hy44 : h44.1[(dd + 1)]? = some (hy_a, .inr (0, 960)) := by rw [e45]; exact hy42
              show fx_V l M_FP_write (0, 0) Q 0 0 108 [some (.ref 0), some (.int (zI s)), some (.int (zI b)), some (.int (zI n)), some (.int (zI r34))] [] h44
              refine fx_aload_n (i := 0) d_FP_write_108 rfl rfl ?_
              refine fx_getR (q := 1) d_FP_write_109 lk_FP_20 (at_0 (h := _) hS44) rfl rfl ?_
              refine fx_getI d_FP_write_112 lk_FP_160 (at_1 (h := _) hS44) rfl ?_
              exact fx_end (some (.int (zI (h44.2.1 1 1)))) ⟨⟨_, rfl, rfl⟩, d_FP_write_115⟩ (Nat.le_refl _) (Nat.le_refl _) rfl H
            · show fx_V l M_FP_write (0, 0) Q 0 0 85 [some (.ref 0), some (.int (zI s)), some (.int (zI b)), some (.int (zI n)), some (.int (zI r34))] [.ref 14, .ref 0] h37
              refine fx_iload_n (i := 3) d_FP_write_85 rfl rfl ?_
              refine fx_iload d_FP_write_86 rfl ?_
              refine fx_callV (M' := M_FP_packStrips) (B' := (0, 0)) (vs := [.ref 14, .int (zI n), .int (zI r34)]) (rest := []) (c1 := 0) (s1 := 0) (n := 91) d_FP_write_88 ca_FP_write_149 (at_0 (h := _) hS37) rfl rfl rfl ⟨by decide, by decide⟩ (Nat.le_of_ble_eq_true rfl) (Or.inl rfl) (fx_Mt.mono H fun v h40 hv => ?_)
              obtain ⟨rfl, e41, H⟩ := hv
              have hS40 := e41.trans hS37
              have hp40 : h40.1[pp]? = some (hp_a, .inl (10, [some (pp + 1), none, none, none])) := by rw [e41]; exact hp37
              have hx40 : h40.1[(pp + 1)]? = some (hx_a, .inr (0, 960)) := by rw [e41]; exact hx37
              have hd40 : h40.1[dd]? = some (hd_a, .inl (10, [some (dd + 1), none, none, none])) := by rw [e41]; exact hd37
              have hy40 : h40.1[(dd + 1)]? = some (hy_a, .inr (0, 960)) := by rw [e41]; exact hy37
              show fx_V l M_FP_write (0, 0) Q 0 0 91 [some (.ref 0), some (.int (zI s)), some (.int (zI b)), some (.int (zI n)), some (.int (zI r34))] [] h40
              refine fx_aload_n (i := 0) d_FP_write_91 rfl rfl ?_
              refine fx_iload_n (i := 1) d_FP_write_92 rfl rfl ?_
              refine fx_iload_n (i := 3) d_FP_write_93 rfl rfl ?_
              refine fx_iload d_FP_write_94 rfl ?_
              refine fx_callV (M' := M_FP_writeTags) (B' := (0, 0)) (vs := [.int (zI s), .int (zI n), .int (zI r34)]) (rest := []) (c1 := 0) (s1 := 0) (n := 99) d_FP_write_96 ca_FP_write_153 (at_0 (h := _) hS40) rfl rfl rfl ⟨by decide, by decide⟩ (Nat.le_of_ble_eq_true rfl) (Or.inl rfl) (fx_Mt.mono H fun v h42 hv => ?_)
              obtain ⟨rfl, e43, H⟩ := hv
              have hS42 := e43.trans hS40
              have hp42 : h42.1[pp]? = some (hp_a, .inl (10, [some (pp + 1), none, none, none])) := by rw [e43]; exact hp40
              have hx42 : h42.1[(pp + 1)]? = some (hx_a, .inr (0, 960)) := by rw [e43]; exact hx40
              have hd42 : h42.1[dd]? = some (hd_a, .inl (10, [some (dd + 1), none, none, none])) := by rw [e43]; exact hd40
              have hy42 : h42.1[(dd + 1)]? = some (hy_a, .inr (0, 960)) := by rw [e43]; exact hy40
              show fx_V l M_FP_write (0, 0) Q 0 0 99 [some (.ref 0), some (.int (zI s)), some (.int (zI b)), some (.int (zI n)), some (.int (zI r34))] [] h42
              refine fx_aload_n (i := 0) d_FP_write_99 rfl rfl ?_
              refine fx_iload_n (i := 1) d_FP_write_100 rfl rfl ?_
              refine fx_iload_n (i := 2) d_FP_write_101 rfl rfl ?_
              refine fx_iload_n (i := 3) d_FP_write_102 rfl rfl ?_
              refine fx_iload d_FP_write_103 rfl ?_
              refine fx_callV (M' := M_FP_know) (B' := (0, 0)) (vs := [.int (zI s), .int (zI b), .int (zI n), .int (zI r34)]) (rest := []) (c1 := 0) (s1 := 0) (n := 108) d_FP_write_105 ca_FP_write_156 (at_0 (h := _) hS42) rfl rfl rfl ⟨by decide, by decide⟩ (Nat.le_of_ble_eq_true rfl) (Or.inl rfl) (fx_Mt.mono H fun v h44 hv => ?_)
              obtain ⟨rfl, e45, H⟩ := hv
              have hS44 := e45.trans hS42
              have hp44 : h44.1[pp]? = some (hp_a, .inl (10, [some (pp + 1), none, none, none])) := by rw [e45]; exact hp42
              have hx44 : h44.1[(pp + 1)]? = some (hx_a, .inr (0, 960)) := by rw [e45]; exact hx42
              have hd44 : h44.1[dd]? = some (hd_a, .inl (10, [some (dd + 1), none, none, none])) := by rw [e45]; exact hd42
              have hy44 : h44.1[(dd + 1)]? = some (hy_a, .inr (0, 960)) := by rw [e45]; exact hy42
              show fx_V l M_FP_write (0, 0) Q 0 0 108 [some (.ref 0), some (.int (zI s)), some (.int (zI b)), some (.int (zI n)), some (.int (zI r34))] [] h44
              refine fx_aload_n (i := 0) d_FP_write_108 rfl rfl ?_
              refine fx_getR (q := 1) d_FP_write_109 lk_FP_20 (at_0 (h := _) hS44) rfl rfl ?_
              refine fx_getI d_FP_write_112 lk_FP_160 (at_1 (h := _) hS44) rfl ?_
              exact fx_end (some (.int (zI (h44.2.1 1 1)))) ⟨⟨_, rfl, rfl⟩, d_FP_write_115⟩ (Nat.le_refl _) (Nat.le_refl _) rfl H
            · show fx_V l M_FP_write (0, 0) Q 0 0 85 [some (.ref 0), some (.int (zI s)), some (.int (zI b)), some (.int (zI n)), some (.int (zI r34))] [.ref 16, .ref 0] h37
              refine fx_iload_n (i := 3) d_FP_write_85 rfl rfl ?_
              refine fx_iload d_FP_write_86 rfl ?_
              refine fx_callV (M' := M_FP_packStrips) (B' := (0, 0)) (vs := [.ref 16, .int (zI n), .int (zI r34)]) (rest := []) (c1 := 0) (s1 := 0) (n := 91) d_FP_write_88 ca_FP_write_149 (at_0 (h := _) hS37) rfl rfl rfl ⟨by decide, by decide⟩ (Nat.le_of_ble_eq_true rfl) (Or.inl rfl) (fx_Mt.mono H fun v h40 hv => ?_)
              obtain ⟨rfl, e41, H⟩ := hv
              have hS40 := e41.trans hS37
              have hp40 : h40.1[pp]? = some (hp_a, .inl (10, [some (pp + 1), none, none, none])) := by rw [e41]; exact hp37
              have hx40 : h40.1[(pp + 1)]? = some (hx_a, .inr (0, 960)) := by rw [e41]; exact hx37
              have hd40 : h40.1[dd]? = some (hd_a, .inl (10, [some (dd + 1), none, none, none])) := by rw [e41]; exact hd37
              have hy40 : h40.1[(dd + 1)]? = some (hy_a, .inr (0, 960)) := by rw [e41]; exact hy37
              show fx_V l M_FP_write (0, 0) Q 0 0 91 [some (.ref 0), some (.int (zI s)), some (.int (zI b)), some (.int (zI n)), some (.int (zI r34))] [] h40
              refine fx_aload_n (i := 0) d_FP_write_91 rfl rfl ?_
              refine fx_iload_n (i := 1) d_FP_write_92 rfl rfl ?_
              refine fx_iload_n (i := 3) d_FP_write_93 rfl rfl ?_
              refine fx_iload d_FP_write_94 rfl ?_
              refine fx_callV (M' := M_FP_writeTags) (B' := (0, 0)) (vs := [.int (zI s), .int (zI n), .int (zI r34)]) (rest := []) (c1 := 0) (s1 := 0) (n := 99) d_FP_write_96 ca_FP_write_153 (at_0 (h := _) hS40) rfl rfl rfl ⟨by decide, by decide⟩ (Nat.le_of_ble_eq_true rfl) (Or.inl rfl) (fx_Mt.mono H fun v h42 hv => ?_)
              obtain ⟨rfl, e43, H⟩ := hv
              have hS42 := e43.trans hS40
              have hp42 : h42.1[pp]? = some (hp_a, .inl (10, [some (pp + 1), none, none, none])) := by rw [e43]; exact hp40
              have hx42 : h42.1[(pp + 1)]? = some (hx_a, .inr (0, 960)) := by rw [e43]; exact hx40
              have hd42 : h42.1[dd]? = some (hd_a, .inl (10, [some (dd + 1), none, none, none])) := by rw [e43]; exact hd40
              have hy42 : h42.1[(dd + 1)]? = some (hy_a, .inr (0, 960)) := by rw [e43]; exact hy40
              show fx_V l M_FP_write (0, 0) Q 0 0 99 [some (.ref 0), some (.int (zI s)), some (.int (zI b)), some (.int (zI n)), some (.int (zI r34))] [] h42
              refine fx_aload_n (i := 0) d_FP_write_99 rfl rfl ?_
              refine fx_iload_n (i := 1) d_FP_write_100 rfl rfl ?_
              refine fx_iload_n (i := 2) d_FP_write_101 rfl rfl ?_
              refine fx_iload_n (i := 3) d_FP_write_102 rfl rfl ?_
              refine fx_iload d_FP_write_103 rfl ?_
              refine fx_callV (M' := M_FP_know) (B' := (0, 0)) (vs := [.int (zI s), .int (zI b), .int (zI n), .int (zI r34)]) (rest := []) (c1 := 0) (s1 := 0) (n := 108) d_FP_write_105 ca_FP_write_156 (at_0 (h := _) hS42) rfl rfl rfl ⟨by decide, by decide⟩ (Nat.le_of_ble_eq_true rfl) (Or.inl rfl) (fx_Mt.mono H fun v h44 hv => ?_)
              obtain ⟨rfl, e45, H⟩ := hv
              have hS44 := e45.trans hS42
              have hp44 : h44.1[pp]? = some (hp_a, .inl (10, [some (pp + 1), none, none, none])) := by rw [e45]; exact hp42
              have hx44 : h44.1[(pp + 1)]? = some (hx_a, .inr (0, 960)) := by rw [e45]; exact hx42
              have hd44 : h44.1[dd]? = some (hd_a, .inl (10, [some (dd + 1), none, none, none])) := by rw [e45]; exact hd42
              have hy44 : h44.1[(dd + 1)]? = some (hy_a, .inr (0, 960)) := by rw [e45]; exact hy42
              show fx_V l M_FP_write (0, 0) Q 0 0 108 [some (.ref 0), some (.int (zI s)), some (.int (zI b)), some (.int (zI n)), some (.int (zI r34))] [] h44
              refine fx_aload_n (i := 0) d_FP_write_108 rfl rfl ?_
              refine fx_getR (q := 1) d_FP_write_109 lk_FP_20 (at_0 (h := _) hS44) rfl rfl ?_
              refine fx_getI d_FP_write_112 lk_FP_160 (at_1 (h := _) hS44) rfl ?_
              exact fx_end (some (.int (zI (h44.2.1 1 1)))) ⟨⟨_, rfl, rfl⟩, d_FP_write_115⟩ (Nat.le_refl _) (Nat.le_refl _) rfl H
            · show fx_V l M_FP_write (0, 0) Q 0 0 85 [some (.ref 0), some (.int (zI s)), some (.int (zI b)), some (.int (zI n)), some (.int (zI r34))] [.ref 23, .ref 0] h37
              refine fx_iload_n (i := 3) d_FP_write_85 rfl rfl ?_
              refine fx_iload d_FP_write_86 rfl ?_
              refine fx_callV (M' := M_FP_packStrips) (B' := (0, 0)) (vs := [.ref 23, .int (zI n), .int (zI r34)]) (rest := []) (c1 := 0) (s1 := 0) (n := 91) d_FP_write_88 ca_FP_write_149 (at_0 (h := _) hS37) rfl rfl rfl ⟨by decide, by decide⟩ (Nat.le_of_ble_eq_true rfl) (Or.inl rfl) (fx_Mt.mono H fun v h40 hv => ?_)
              obtain ⟨rfl, e41, H⟩ := hv
              have hS40 := e41.trans hS37
              have hp40 : h40.1[pp]? = some (hp_a, .inl (10, [some (pp + 1), none, none, none])) := by rw [e41]; exact hp37
              have hx40 : h40.1[(pp + 1)]? = some (hx_a, .inr (0, 960)) := by rw [e41]; exact hx37
              have hd40 : h40.1[dd]? = some (hd_a, .inl (10, [some (dd + 1), none, none, none])) := by rw [e41]; exact hd37
              have hy40 : h40.1[(dd + 1)]? = some (hy_a, .inr (0, 960)) := by rw [e41]; exact hy37
              show fx_V l M_FP_write (0, 0) Q 0 0 91 [some (.ref 0), some (.int (zI s)), some (.int (zI b)), some (.int (zI n)), some (.int (zI r34))] [] h40
              refine fx_aload_n (i := 0) d_FP_write_91 rfl rfl ?_
              refine fx_iload_n (i := 1) d_FP_write_92 rfl rfl ?_
              refine fx_iload_n (i := 3) d_FP_write_93 rfl rfl ?_
              refine fx_iload d_FP_write_94 rfl ?_
              refine fx_callV (M' := M_FP_writeTags) (B' := (0, 0)) (vs := [.int (zI s), .int (zI n), .int (zI r34)]) (rest := []) (c1 := 0) (s1 := 0) (n := 99) d_FP_write_96 ca_FP_write_153 (at_0 (h := _) hS40) rfl rfl rfl ⟨by decide, by decide⟩ (Nat.le_of_ble_eq_true rfl) (Or.inl rfl) (fx_Mt.mono H fun v h42 hv => ?_)
              obtain ⟨rfl, e43, H⟩ := hv
              have hS42 := e43.trans hS40
              have hp42 : h42.1[pp]? = some (hp_a, .inl (10, [some (pp + 1), none, none, none])) := by rw [e43]; exact hp40
              have hx42 : h42.1[(pp + 1)]? = some (hx_a, .inr (0, 960)) := by rw [e43]; exact hx40
              have hd42 : h42.1[dd]? = some (hd_a, .inl (10, [some (dd + 1), none, none, none])) := by rw [e43]; exact hd40
              have hy42 : h42.1[(dd + 1)]? = some (hy_a, .inr (0, 960)) := by rw [e43]; exact hy40
              show fx_V l M_FP_write (0, 0) Q 0 0 99 [some (.ref 0), some (.int (zI s)), some (.int (zI b)), some (.int (zI n)), some (.int (zI r34))] [] h42
              refine fx_aload_n (i := 0) d_FP_write_99 rfl rfl ?_
              refine fx_iload_n (i := 1) d_FP_write_100 rfl rfl ?_
              refine fx_iload_n (i := 2) d_FP_write_101 rfl rfl ?_
              refine fx_iload_n (i := 3) d_FP_write_102 rfl rfl ?_
              refine fx_iload d_FP_write_103 rfl ?_
              refine fx_callV (M' := M_FP_know) (B' := (0, 0)) (vs := [.int (zI s), .int (zI b), .int (zI n), .int (zI r34)]) (rest := []) (c1 := 0) (s1 := 0) (n := 108) d_FP_write_105 ca_FP_write_156 (at_0 (h := _) hS42) rfl rfl rfl ⟨by decide, by decide⟩ (Nat.le_of_ble_eq_true rfl) (Or.inl rfl) (fx_Mt.mono H fun v h44 hv => ?_)
              obtain ⟨rfl, e45, H⟩ := hv
              have hS44 := e45.trans hS42
              have hp44 : h44.1[pp]? = some (hp_a, .inl (10, [some (pp + 1), none, none, none])) := by rw [e45]; exact hp42
              have hx44 : h44.1[(pp + 1)]? = some (hx_a, .inr (0, 960)) := by rw [e45]; exact hx42
              have hd44 : h44.1[dd]? = some (hd_a, .inl (10, [some (dd + 1), none, none, none])) := by rw [e45]; exact hd42
              have hy44 : h44.1[(dd + 1)]? = some (hy_a, .inr (0, 960)) := by rw [e45]; exact hy42
              show fx_V l M_FP_write (0, 0) Q 0 0 108 [some (.ref 0), some (.int (zI s)), some (.int (zI b)), some (.int (zI n)), some (.int (zI r34))] [] h44
              refine fx_aload_n (i := 0) d_FP_write_108 rfl rfl ?_
              refine fx_getR (q := 1) d_FP_write_109 lk_FP_20 (at_0 (h := _) hS44) rfl rfl ?_
              refine fx_getI d_FP_write_112 lk_FP_160 (at_1 (h := _) hS44) rfl ?_
              exact fx_end (some (.int (zI (h44.2.1 1 1)))) ⟨⟨_, rfl, rfl⟩, d_FP_write_115⟩ (Nat.le_refl _) (Nat.le_refl _) rfl H
            · show fx_V l M_FP_write (0, 0) Q 0 0 85 [some (.ref 0), some (.int (zI s)), some (.int (zI b)), some (.int (zI n)), some (.int (zI r34))] [.ref 24, .ref 0] h37
              refine fx_iload_n (i := 3) d_FP_write_85 rfl rfl ?_
              refine fx_iload d_FP_write_86 rfl ?_
              refine fx_callV (M' := M_FP_packStrips) (B' := (0, 0)) (vs := [.ref 24, .int (zI n), .int (zI r34)]) (rest := []) (c1 := 0) (s1 := 0) (n := 91) d_FP_write_88 ca_FP_write_149 (at_0 (h := _) hS37) rfl rfl rfl ⟨by decide, by decide⟩ (Nat.le_of_ble_eq_true rfl) (Or.inl rfl) (fx_Mt.mono H fun v h40 hv => ?_)
              obtain ⟨rfl, e41, H⟩ := hv
              have hS40 := e41.trans hS37
              have hp40 : h40.1[pp]? = some (hp_a, .inl (10, [some (pp + 1), none, none, none])) := by rw [e41]; exact hp37
              have hx40 : h40.1[(pp + 1)]? = some (hx_a, .inr (0, 960)) := by rw [e41]; exact hx37
              have hd40 : h40.1[dd]? = some (hd_a, .inl (10, [some (dd + 1), none, none, none])) := by rw [e41]; exact hd37
              have hy40 : h40.1[(dd + 1)]? = some (hy_a, .inr (0, 960)) := by rw [e41]; exact hy37
              show fx_V l M_FP_write (0, 0) Q 0 0 91 [some (.ref 0), some (.int (zI s)), some (.int (zI b)), some (.int (zI n)), some (.int (zI r34))] [] h40
              refine fx_aload_n (i := 0) d_FP_write_91 rfl rfl ?_
              refine fx_iload_n (i := 1) d_FP_write_92 rfl rfl ?_
              refine fx_iload_n (i := 3) d_FP_write_93 rfl rfl ?_
              refine fx_iload d_FP_write_94 rfl ?_
              refine fx_callV (M' := M_FP_writeTags) (B' := (0, 0)) (vs := [.int (zI s), .int (zI n), .int (zI r34)]) (rest := []) (c1 := 0) (s1 := 0) (n := 99) d_FP_write_96 ca_FP_write_153 (at_0 (h := _) hS40) rfl rfl rfl ⟨by decide, by decide⟩ (Nat.le_of_ble_eq_true rfl) (Or.inl rfl) (fx_Mt.mono H fun v h42 hv => ?_)
              obtain ⟨rfl, e43, H⟩ := hv
              have hS42 := e43.trans hS40
              have hp42 : h42.1[pp]? = some (hp_a, .inl (10, [some (pp + 1), none, none, none])) := by rw [e43]; exact hp40
              have hx42 : h42.1[(pp + 1)]? = some (hx_a, .inr (0, 960)) := by rw [e43]; exact hx40
              have hd42 : h42.1[dd]? = some (hd_a, .inl (10, [some (dd + 1), none, none, none])) := by rw [e43]; exact hd40
              have hy42 : h42.1[(dd + 1)]? = some (hy_a, .inr (0, 960)) := by rw [e43]; exact hy40
              show fx_V l M_FP_write (0, 0) Q 0 0 99 [some (.ref 0), some (.int (zI s)), some (.int (zI b)), some (.int (zI n)), some (.int (zI r34))] [] h42
              refine fx_aload_n (i := 0) d_FP_write_99 rfl rfl ?_
              refine fx_iload_n (i := 1) d_FP_write_100 rfl rfl ?_
              refine fx_iload_n (i := 2) d_FP_write_101 rfl rfl ?_
              refine fx_iload_n (i := 3) d_FP_write_102 rfl rfl ?_
              refine fx_iload d_FP_write_103 rfl ?_
              refine fx_callV (M' := M_FP_know) (B' := (0, 0)) (vs := [.int (zI s), .int (zI b), .int (zI n), .int (zI r34)]) (rest := []) (c1 := 0) (s1 := 0) (n := 108) d_FP_write_105 ca_FP_write_156 (at_0 (h := _) hS42) rfl rfl rfl ⟨by decide, by decide⟩ (Nat.le_of_ble_eq_true rfl) (Or.inl rfl) (fx_Mt.mono H fun v h44 hv => ?_)
              obtain ⟨rfl, e45, H⟩ := hv
              have hS44 := e45.trans hS42
              have hp44 : h44.1[pp]? = some (hp_a, .inl (10, [some (pp + 1), none, none, none])) := by rw [e45]; exact hp42
              have hx44 : h44.1[(pp + 1)]? = some (hx_a, .inr (0, 960)) := by rw [e45]; exact hx42
              have hd44 : h44.1[dd]? = some (hd_a, .inl (10, [some (dd + 1), none, none, none])) := by rw [e45]; exact hd42
              have hy44 : h44.1[(dd + 1)]? = some (hy_a, .inr (0, 960)) := by rw [e45]; exact hy42
              show fx_V l M_FP_write (0, 0) Q 0 0 108 [some (.ref 0), some (.int (zI s)), some (.int (zI b)), some (.int (zI n)), some (.int (zI r34))] [] h44
              refine fx_aload_n (i := 0) d_FP_write_108 rfl rfl ?_
              refine fx_getR (q := 1) d_FP_write_109 lk_FP_20 (at_0 (h := _) hS44) rfl rfl ?_
              refine fx_getI d_FP_write_112 lk_FP_160 (at_1 (h := _) hS44) rfl ?_
              exact fx_end (some (.int (zI (h44.2.1 1 1)))) ⟨⟨_, rfl, rfl⟩, d_FP_write_115⟩ (Nat.le_refl _) (Nat.le_refl _) rfl H
          · replace H := H.2 z31
            exact H.elim
      · replace H := H.2 z10
        exact H.elim

set_option maxRecDepth 100000 in
set_option maxHeartbeats 4000000 in
theorem e_FP_size {l : Launch} {Q : Option Value → fx_H → Prop} {h : fx_H}   {hp_a : Nat} {hx_a : Nat} {hd_a : Nat} {hy_a : Nat} {a : Nat → Nat} {pp dd : Nat} (hS : h.1 = fx_S0 a pp dd) (hp : h.1[pp]? = some (hp_a, .inl (10, [some (pp + 1), none, none, none]))) (hx : h.1[(pp + 1)]? = some (hx_a, .inr (0, 960))) (hd : h.1[dd]? = some (hd_a, .inl (10, [some (dd + 1), none, none, none]))) (hy : h.1[(dd + 1)]? = some (hy_a, .inr (0, 960)))
    (H : Q (some (.int (zI (h.2.1 1 1)))) h) :
    fx_Mt l M_FP_size (0, 0) [.ref 0] h Q := by
  refine fx_entry (ls := [some (.ref 0)]) (by decide) (Nat.le_of_ble_eq_true rfl) rfl ?_
  refine fx_aload_n (i := 0) d_FP_size_0 rfl rfl ?_
  refine fx_getR (q := 1) d_FP_size_1 lk_FP_20 (at_0 (h := _) hS) rfl rfl ?_
  refine fx_getI d_FP_size_4 lk_FP_160 (at_1 (h := _) hS) rfl ?_
  exact fx_end (some (.int (zI (h.2.1 1 1)))) ⟨⟨_, rfl, rfl⟩, d_FP_size_7⟩ (Nat.le_refl _) (Nat.le_refl _) rfl H

set_option maxRecDepth 100000 in
set_option maxHeartbeats 4000000 in
theorem e_FP_at {l : Launch} {Q : Option Value → fx_H → Prop} {h : fx_H}  {x : Int} {hp_a : Nat} {hx_a : Nat} {hd_a : Nat} {hy_a : Nat} {a : Nat → Nat} {pp dd : Nat} (hS : h.1 = fx_S0 a pp dd) (hp : h.1[pp]? = some (hp_a, .inl (10, [some (pp + 1), none, none, none]))) (hx : h.1[(pp + 1)]? = some (hx_a, .inr (0, 960))) (hd : h.1[dd]? = some (hd_a, .inl (10, [some (dd + 1), none, none, none]))) (hy : h.1[(dd + 1)]? = some (hy_a, .inr (0, 960)))
    (H : fx_Mt l M_BY_has (0, 0) [.ref 1, .int (zI x)] h (fun v h1 => ∃ r3 : Int, v = some (.int (zI r3)) ∧ h1.1 = h.1 ∧ zR r3 ∧ ((r3 = 0 → Q (some (.int (zI (-9)))) h1) ∧ (¬ (r3 = 0) → fx_Mt l M_BY_byteAt (0, 0) [.ref 1, .int (zI x)] h1 (fun v h6 => ∃ r8 : Int, v = some (.int (zI r8)) ∧ h6.1 = h1.1 ∧ Q (some (.int (zI r8))) h6))))) :
    fx_Mt l M_FP_at (0, 0) [.ref 0, .int (zI x)] h Q := by
  refine fx_entry (ls := [some (.ref 0), some (.int (zI x))]) (by decide) (Nat.le_of_ble_eq_true rfl) rfl ?_
  refine fx_aload_n (i := 0) d_FP_at_0 rfl rfl ?_
  refine fx_getR (q := 1) d_FP_at_1 lk_FP_20 (at_0 (h := _) hS) rfl rfl ?_
  refine fx_iload_n (i := 1) d_FP_at_4 rfl rfl ?_
  refine fx_callV (M' := M_BY_has) (B' := (0, 0)) (vs := [.int (zI x)]) (rest := []) (c1 := 0) (s1 := 0) (n := 8) d_FP_at_5 ca_FP_at_188 (at_1 (h := _) hS) rfl rfl rfl ⟨by decide, by decide⟩ (Nat.le_of_ble_eq_true rfl) (Or.inl rfl) (fx_Mt.mono H fun v h1 hv => ?_)
  obtain ⟨r3, rfl, e2, H⟩ := hv
  have hS1 := e2.trans hS
  have hp1 : h1.1[pp]? = some (hp_a, .inl (10, [some (pp + 1), none, none, none])) := by rw [e2]; exact hp
  have hx1 : h1.1[(pp + 1)]? = some (hx_a, .inr (0, 960)) := by rw [e2]; exact hx
  have hd1 : h1.1[dd]? = some (hd_a, .inl (10, [some (dd + 1), none, none, none])) := by rw [e2]; exact hd
  have hy1 : h1.1[(dd + 1)]? = some (hy_a, .inr (0, 960)) := by rw [e2]; exact hy
  show fx_V l M_FP_at (0, 0) Q 0 0 8 [some (.ref 0), some (.int (zI x))] [.int (zI r3)] h1
  obtain ⟨hz4, H⟩ := H
  refine fx_if_eq (t := 22) (n := 11) d_FP_at_8 hz4 (fun z5 => ?_) (fun z5 => ?_)
  · replace H := H.1 z5
    refine fx_bipush (v := -9) d_FP_at_22 rfl ?_
    exact fx_end (some (.int (zI (-9)))) ⟨⟨_, rfl, rfl⟩, d_FP_at_24⟩ (Nat.le_refl _) (Nat.le_refl _) rfl H
  · replace H := H.2 z5
    refine fx_aload_n (i := 0) d_FP_at_11 rfl rfl ?_
    refine fx_getR (q := 1) d_FP_at_12 lk_FP_20 (at_0 (h := _) hS1) rfl rfl ?_
    refine fx_iload_n (i := 1) d_FP_at_15 rfl rfl ?_
    refine fx_callV (M' := M_BY_byteAt) (B' := (0, 0)) (vs := [.int (zI x)]) (rest := []) (c1 := 0) (s1 := 0) (n := 19) d_FP_at_16 ca_FP_at_191 (at_1 (h := _) hS1) rfl rfl rfl ⟨by decide, by decide⟩ (Nat.le_of_ble_eq_true rfl) (Or.inl rfl) (fx_Mt.mono H fun v h6 hv => ?_)
    obtain ⟨r8, rfl, e7, H⟩ := hv
    have hS6 := e7.trans hS1
    have hp6 : h6.1[pp]? = some (hp_a, .inl (10, [some (pp + 1), none, none, none])) := by rw [e7]; exact hp1
    have hx6 : h6.1[(pp + 1)]? = some (hx_a, .inr (0, 960)) := by rw [e7]; exact hx1
    have hd6 : h6.1[dd]? = some (hd_a, .inl (10, [some (dd + 1), none, none, none])) := by rw [e7]; exact hd1
    have hy6 : h6.1[(dd + 1)]? = some (hy_a, .inr (0, 960)) := by rw [e7]; exact hy1
    show fx_V l M_FP_at (0, 0) Q 0 0 19 [some (.ref 0), some (.int (zI x))] [.int (zI r8)] h6
    refine fx_goto (n := 24) d_FP_at_19 ?_
    exact fx_end (some (.int (zI r8))) ⟨⟨_, rfl, rfl⟩, d_FP_at_24⟩ (Nat.le_refl _) (Nat.le_refl _) rfl H

set_option maxRecDepth 100000 in
set_option maxHeartbeats 4000000 in
theorem e_FP_put {l : Launch} {Q : Option Value → fx_H → Prop} {h : fx_H}  {x : Int} {b : Int} {hp_a : Nat} {hx_a : Nat} {hd_a : Nat} {hy_a : Nat} {a : Nat → Nat} {pp dd : Nat} (hS : h.1 = fx_S0 a pp dd) (hp : h.1[pp]? = some (hp_a, .inl (10, [some (pp + 1), none, none, none]))) (hx : h.1[(pp + 1)]? = some (hx_a, .inr (0, 960))) (hd : h.1[dd]? = some (hd_a, .inl (10, [some (dd + 1), none, none, none]))) (hy : h.1[(dd + 1)]? = some (hy_a, .inr (0, 960)))
    (H : fx_Mt l M_BY_has (0, 0) [.ref 1, .int (zI x)] h (fun v h1 => ∃ r3 : Int, v = some (.int (zI r3)) ∧ h1.1 = h.1 ∧ zR r3 ∧ ((¬ r3 = 0 → fx_Mt l M_FP_isByte (0, 0) [.int (zI b)] h1 (fun v h6 => ∃ r8 : Int, v = some (.int (zI r8)) ∧ h6.1 = h1.1 ∧ zR r8 ∧ ((¬ r8 = 0 → fx_Mt l M_BY_byteAt (0, 0) [.ref 1, .int (zI x)] h6 (fun v h11 => ∃ r13 : Int, v = some (.int (zI r13)) ∧ h11.1 = h6.1 ∧ fx_Mt l M_BY_change (0, 0) [.ref 1, .int (zI x), .int (zI b)] h11 (fun v h14 => v = none ∧ h14.1 = h11.1 ∧ Q (some (.int (zI r13))) h14))) ∧ (r8 = 0 → False)))) ∧ (r3 = 0 → False)))) :
    fx_Mt l M_FP_put (0, 0) [.ref 0, .int (zI x), .int (zI b)] h Q := by
  refine fx_entry (ls := [some (.ref 0), some (.int (zI x)), some (.int (zI b)), none]) (by decide) (Nat.le_of_ble_eq_true rfl) rfl ?_
  refine fx_aload_n (i := 0) d_FP_put_0 rfl rfl ?_
  refine fx_getR (q := 1) d_FP_put_1 lk_FP_20 (at_0 (h := _) hS) rfl rfl ?_
  refine fx_iload_n (i := 1) d_FP_put_4 rfl rfl ?_
  refine fx_callV (M' := M_BY_has) (B' := (0, 0)) (vs := [.int (zI x)]) (rest := []) (c1 := 0) (s1 := 0) (n := 8) d_FP_put_5 ca_FP_put_188 (at_1 (h := _) hS) rfl rfl rfl ⟨by decide, by decide⟩ (Nat.le_of_ble_eq_true rfl) (Or.inl rfl) (fx_Mt.mono H fun v h1 hv => ?_)
  obtain ⟨r3, rfl, e2, H⟩ := hv
  have hS1 := e2.trans hS
  have hp1 : h1.1[pp]? = some (hp_a, .inl (10, [some (pp + 1), none, none, none])) := by rw [e2]; exact hp
  have hx1 : h1.1[(pp + 1)]? = some (hx_a, .inr (0, 960)) := by rw [e2]; exact hx
  have hd1 : h1.1[dd]? = some (hd_a, .inl (10, [some (dd + 1), none, none, none])) := by rw [e2]; exact hd
  have hy1 : h1.1[(dd + 1)]? = some (hy_a, .inr (0, 960)) := by rw [e2]; exact hy
  show fx_V l M_FP_put (0, 0) Q 0 0 8 [some (.ref 0), some (.int (zI x)), some (.int (zI b)), none] [.int (zI r3)] h1
  obtain ⟨hz4, H⟩ := H
  refine fx_if_ne (t := 19) (n := 11) d_FP_put_8 hz4 (fun z5 => ?_) (fun z5 => ?_)
  · replace H := H.1 z5
    refine fx_iload_n (i := 2) d_FP_put_19 rfl rfl ?_
    refine fx_callS (M' := M_FP_isByte) (B' := (0, 0)) (vs := [.int (zI b)]) (rest := []) (c1 := 0) (s1 := 0) (n := 23) d_FP_put_20 ca_FP_put_194 rfl rfl ⟨by decide, by decide⟩ (Nat.le_of_ble_eq_true rfl) (Or.inl rfl) (fx_Mt.mono H fun v h6 hv => ?_)
    obtain ⟨r8, rfl, e7, H⟩ := hv
    have hS6 := e7.trans hS1
    have hp6 : h6.1[pp]? = some (hp_a, .inl (10, [some (pp + 1), none, none, none])) := by rw [e7]; exact hp1
    have hx6 : h6.1[(pp + 1)]? = some (hx_a, .inr (0, 960)) := by rw [e7]; exact hx1
    have hd6 : h6.1[dd]? = some (hd_a, .inl (10, [some (dd + 1), none, none, none])) := by rw [e7]; exact hd1
    have hy6 : h6.1[(dd + 1)]? = some (hy_a, .inr (0, 960)) := by rw [e7]; exact hy1
    show fx_V l M_FP_put (0, 0) Q 0 0 23 [some (.ref 0), some (.int (zI x)), some (.int (zI b)), none] [.int (zI r8)] h6
    obtain ⟨hz9, H⟩ := H
    refine fx_if_ne (t := 34) (n := 26) d_FP_put_23 hz9 (fun z10 => ?_) (fun z10 => ?_)
    · replace H := H.1 z10
      refine fx_aload_n (i := 0) d_FP_put_34 rfl rfl ?_
      refine fx_getR (q := 1) d_FP_put_35 lk_FP_20 (at_0 (h := _) hS6) rfl rfl ?_
      refine fx_iload_n (i := 1) d_FP_put_38 rfl rfl ?_
      refine fx_callV (M' := M_BY_byteAt) (B' := (0, 0)) (vs := [.int (zI x)]) (rest := []) (c1 := 0) (s1 := 0) (n := 42) d_FP_put_39 ca_FP_put_191 (at_1 (h := _) hS6) rfl rfl rfl ⟨by decide, by decide⟩ (Nat.le_of_ble_eq_true rfl) (Or.inl rfl) (fx_Mt.mono H fun v h11 hv => ?_)
      obtain ⟨r13, rfl, e12, H⟩ := hv
      have hS11 := e12.trans hS6
      have hp11 : h11.1[pp]? = some (hp_a, .inl (10, [some (pp + 1), none, none, none])) := by rw [e12]; exact hp6
      have hx11 : h11.1[(pp + 1)]? = some (hx_a, .inr (0, 960)) := by rw [e12]; exact hx6
      have hd11 : h11.1[dd]? = some (hd_a, .inl (10, [some (dd + 1), none, none, none])) := by rw [e12]; exact hd6
      have hy11 : h11.1[(dd + 1)]? = some (hy_a, .inr (0, 960)) := by rw [e12]; exact hy6
      show fx_V l M_FP_put (0, 0) Q 0 0 42 [some (.ref 0), some (.int (zI x)), some (.int (zI b)), none] [.int (zI r13)] h11
      refine fx_istore_n (i := 3) (ls2 := [some (.ref 0), some (.int (zI x)), some (.int (zI b)), some (.int (zI r13))]) d_FP_put_42 rfl (by decide) rfl ?_
      refine fx_aload_n (i := 0) d_FP_put_43 rfl rfl ?_
      refine fx_getR (q := 1) d_FP_put_44 lk_FP_20 (at_0 (h := _) hS11) rfl rfl ?_
      refine fx_iload_n (i := 1) d_FP_put_47 rfl rfl ?_
      refine fx_iload_n (i := 2) d_FP_put_48 rfl rfl ?_
      refine fx_callV (M' := M_BY_change) (B' := (0, 0)) (vs := [.int (zI x), .int (zI b)]) (rest := []) (c1 := 0) (s1 := 0) (n := 52) d_FP_put_49 ca_FP_put_197 (at_1 (h := _) hS11) rfl rfl rfl ⟨by decide, by decide⟩ (Nat.le_of_ble_eq_true rfl) (Or.inl rfl) (fx_Mt.mono H fun v h14 hv => ?_)
      obtain ⟨rfl, e15, H⟩ := hv
      have hS14 := e15.trans hS11
      have hp14 : h14.1[pp]? = some (hp_a, .inl (10, [some (pp + 1), none, none, none])) := by rw [e15]; exact hp11
      have hx14 : h14.1[(pp + 1)]? = some (hx_a, .inr (0, 960)) := by rw [e15]; exact hx11
      have hd14 : h14.1[dd]? = some (hd_a, .inl (10, [some (dd + 1), none, none, none])) := by rw [e15]; exact hd11
      have hy14 : h14.1[(dd + 1)]? = some (hy_a, .inr (0, 960)) := by rw [e15]; exact hy11
      show fx_V l M_FP_put (0, 0) Q 0 0 52 [some (.ref 0), some (.int (zI x)), some (.int (zI b)), some (.int (zI r13))] [] h14
      refine fx_iload_n (i := 3) d_FP_put_52 rfl rfl ?_
      exact fx_end (some (.int (zI r13))) ⟨⟨_, rfl, rfl⟩, d_FP_put_53⟩ (Nat.le_refl _) (Nat.le_refl _) rfl H
    · replace H := H.2 z10
      exact H.elim
  · replace H := H.2 z5
    exact H.elim

set_option maxRecDepth 100000 in
set_option maxHeartbeats 4000000 in
theorem e_FP_add {l : Launch} {Q : Option Value → fx_H → Prop} {h : fx_H}  {b : Int} {hp_a : Nat} {hx_a : Nat} {hd_a : Nat} {hy_a : Nat} {a : Nat → Nat} {pp dd : Nat} (hS : h.1 = fx_S0 a pp dd) (hp : h.1[pp]? = some (hp_a, .inl (10, [some (pp + 1), none, none, none]))) (hx : h.1[(pp + 1)]? = some (hx_a, .inr (0, 960))) (hd : h.1[dd]? = some (hd_a, .inl (10, [some (dd + 1), none, none, none]))) (hy : h.1[(dd + 1)]? = some (hy_a, .inr (0, 960)))
    (H : fx_Mt l M_FP_isByte (0, 0) [.int (zI b)] h (fun v h1 => ∃ r3 : Int, v = some (.int (zI r3)) ∧ h1.1 = h.1 ∧ zR r3 ∧ ((r3 = 0 → Q (some (.int (zI 0))) h1) ∧ (¬ (r3 = 0) → zR (h1.2.1 1 1) ∧ (((h1.2.1 1 1) < 2000 → fx_Mt l M_BY_append (0, 0) [.ref 1, .int (zI b)] h1 (fun v h8 => v = none ∧ h8.1 = h1.1 ∧ Q (some (.int (zI 1))) h8)) ∧ (¬ ((h1.2.1 1 1) < 2000) → Q (some (.int (zI 0))) h1)))))) :
    fx_Mt l M_FP_add (0, 0) [.ref 0, .int (zI b)] h Q := by
  refine fx_entry (ls := [some (.ref 0), some (.int (zI b))]) (by decide) (Nat.le_of_ble_eq_true rfl) rfl ?_
  refine fx_iload_n (i := 1) d_FP_add_0 rfl rfl ?_
  refine fx_callS (M' := M_FP_isByte) (B' := (0, 0)) (vs := [.int (zI b)]) (rest := []) (c1 := 0) (s1 := 0) (n := 4) d_FP_add_1 ca_FP_add_194 rfl rfl ⟨by decide, by decide⟩ (Nat.le_of_ble_eq_true rfl) (Or.inl rfl) (fx_Mt.mono H fun v h1 hv => ?_)
  obtain ⟨r3, rfl, e2, H⟩ := hv
  have hS1 := e2.trans hS
  have hp1 : h1.1[pp]? = some (hp_a, .inl (10, [some (pp + 1), none, none, none])) := by rw [e2]; exact hp
  have hx1 : h1.1[(pp + 1)]? = some (hx_a, .inr (0, 960)) := by rw [e2]; exact hx
  have hd1 : h1.1[dd]? = some (hd_a, .inl (10, [some (dd + 1), none, none, none])) := by rw [e2]; exact hd
  have hy1 : h1.1[(dd + 1)]? = some (hy_a, .inr (0, 960)) := by rw [e2]; exact hy
  show fx_V l M_FP_add (0, 0) Q 0 0 4 [some (.ref 0), some (.int (zI b))] [.int (zI r3)] h1
  obtain ⟨hz4, H⟩ := H
  refine fx_if_eq (t := 20) (n := 7) d_FP_add_4 hz4 (fun z5 => ?_) (fun z5 => ?_)
  · replace H := H.1 z5
    refine fx_iconst d_FP_add_20 ?_
    exact fx_end (some (.int (zI 0))) ⟨⟨_, rfl, rfl⟩, d_FP_add_21⟩ (Nat.le_refl _) (Nat.le_refl _) rfl H
  · replace H := H.2 z5
    refine fx_aload_n (i := 0) d_FP_add_7 rfl rfl ?_
    refine fx_getR (q := 1) d_FP_add_8 lk_FP_20 (at_0 (h := _) hS1) rfl rfl ?_
    refine fx_getI d_FP_add_11 lk_FP_160 (at_1 (h := _) hS1) rfl ?_
    refine fx_sipush (v := 2000) d_FP_add_14 rfl ?_
    obtain ⟨hz6, H⟩ := H
    refine fx_icmp_lt (t := 22) (n := 20) d_FP_add_17 hz6 (show zR 2000 by decide) (fun z7 => ?_) (fun z7 => ?_)
    · replace H := H.1 z7
      refine fx_aload_n (i := 0) d_FP_add_22 rfl rfl ?_
      refine fx_getR (q := 1) d_FP_add_23 lk_FP_20 (at_0 (h := _) hS1) rfl rfl ?_
      refine fx_iload_n (i := 1) d_FP_add_26 rfl rfl ?_
      refine fx_callV (M' := M_BY_append) (B' := (0, 0)) (vs := [.int (zI b)]) (rest := []) (c1 := 0) (s1 := 0) (n := 30) d_FP_add_27 ca_FP_add_201 (at_1 (h := _) hS1) rfl rfl rfl ⟨by decide, by decide⟩ (Nat.le_of_ble_eq_true rfl) (Or.inl rfl) (fx_Mt.mono H fun v h8 hv => ?_)
      obtain ⟨rfl, e9, H⟩ := hv
      have hS8 := e9.trans hS1
      have hp8 : h8.1[pp]? = some (hp_a, .inl (10, [some (pp + 1), none, none, none])) := by rw [e9]; exact hp1
      have hx8 : h8.1[(pp + 1)]? = some (hx_a, .inr (0, 960)) := by rw [e9]; exact hx1
      have hd8 : h8.1[dd]? = some (hd_a, .inl (10, [some (dd + 1), none, none, none])) := by rw [e9]; exact hd1
      have hy8 : h8.1[(dd + 1)]? = some (hy_a, .inr (0, 960)) := by rw [e9]; exact hy1
      show fx_V l M_FP_add (0, 0) Q 0 0 30 [some (.ref 0), some (.int (zI b))] [] h8
      refine fx_iconst d_FP_add_30 ?_
      exact fx_end (some (.int (zI 1))) ⟨⟨_, rfl, rfl⟩, d_FP_add_31⟩ (Nat.le_refl _) (Nat.le_refl _) rfl H
    · replace H := H.2 z7
      refine fx_iconst d_FP_add_20 ?_
      exact fx_end (some (.int (zI 0))) ⟨⟨_, rfl, rfl⟩, d_FP_add_21⟩ (Nat.le_refl _) (Nat.le_refl _) rfl H

set_option maxRecDepth 100000 in
set_option maxHeartbeats 4000000 in
theorem e_FP_cut {l : Launch} {Q : Option Value → fx_H → Prop} {h : fx_H}  {n : Int} {hp_a : Nat} {hx_a : Nat} {hd_a : Nat} {hy_a : Nat} {a : Nat → Nat} {pp dd : Nat} (hS : h.1 = fx_S0 a pp dd) (hp : h.1[pp]? = some (hp_a, .inl (10, [some (pp + 1), none, none, none]))) (hx : h.1[(pp + 1)]? = some (hx_a, .inr (0, 960))) (hd : h.1[dd]? = some (hd_a, .inl (10, [some (dd + 1), none, none, none]))) (hy : h.1[(dd + 1)]? = some (hy_a, .inr (0, 960)))
    (H : zR n ∧ ((0 ≤ n → fx_Mt l M_BY_keep (0, 0) [.ref 1, .int (zI n)] h (fun v h3 => v = none ∧ h3.1 = h.1 ∧ Q (some (.int (zI ((h.2.1 1 1) - (h3.2.1 1 1))))) h3)) ∧ (¬ (0 ≤ n) → False))) :
    fx_Mt l M_FP_cut (0, 0) [.ref 0, .int (zI n)] h Q := by
  refine fx_entry (ls := [some (.ref 0), some (.int (zI n)), none]) (by decide) (Nat.le_of_ble_eq_true rfl) rfl ?_
  refine fx_iload_n (i := 1) d_FP_cut_0 rfl rfl ?_
  obtain ⟨hz1, H⟩ := H
  refine fx_if_ge (t := 12) (n := 4) d_FP_cut_1 hz1 (fun z2 => ?_) (fun z2 => ?_)
  · replace H := H.1 z2
    refine fx_aload_n (i := 0) d_FP_cut_12 rfl rfl ?_
    refine fx_getR (q := 1) d_FP_cut_13 lk_FP_20 (at_0 (h := _) hS) rfl rfl ?_
    refine fx_getI d_FP_cut_16 lk_FP_160 (at_1 (h := _) hS) rfl ?_
    refine fx_istore_n (i := 2) (ls2 := [some (.ref 0), some (.int (zI n)), some (.int (zI (h.2.1 1 1)))]) d_FP_cut_19 rfl (by decide) rfl ?_
    refine fx_aload_n (i := 0) d_FP_cut_20 rfl rfl ?_
    refine fx_getR (q := 1) d_FP_cut_21 lk_FP_20 (at_0 (h := _) hS) rfl rfl ?_
    refine fx_iload_n (i := 1) d_FP_cut_24 rfl rfl ?_
    refine fx_callV (M' := M_BY_keep) (B' := (0, 0)) (vs := [.int (zI n)]) (rest := []) (c1 := 0) (s1 := 0) (n := 28) d_FP_cut_25 ca_FP_cut_205 (at_1 (h := _) hS) rfl rfl rfl ⟨by decide, by decide⟩ (Nat.le_of_ble_eq_true rfl) (Or.inl rfl) (fx_Mt.mono H fun v h3 hv => ?_)
    obtain ⟨rfl, e4, H⟩ := hv
    have hS3 := e4.trans hS
    have hp3 : h3.1[pp]? = some (hp_a, .inl (10, [some (pp + 1), none, none, none])) := by rw [e4]; exact hp
    have hx3 : h3.1[(pp + 1)]? = some (hx_a, .inr (0, 960)) := by rw [e4]; exact hx
    have hd3 : h3.1[dd]? = some (hd_a, .inl (10, [some (dd + 1), none, none, none])) := by rw [e4]; exact hd
    have hy3 : h3.1[(dd + 1)]? = some (hy_a, .inr (0, 960)) := by rw [e4]; exact hy
    show fx_V l M_FP_cut (0, 0) Q 0 0 28 [some (.ref 0), some (.int (zI n)), some (.int (zI (h.2.1 1 1)))] [] h3
    refine fx_iload_n (i := 2) d_FP_cut_28 rfl rfl ?_
    refine fx_aload_n (i := 0) d_FP_cut_29 rfl rfl ?_
    refine fx_getR (q := 1) d_FP_cut_30 lk_FP_20 (at_0 (h := _) hS3) rfl rfl ?_
    refine fx_getI d_FP_cut_33 lk_FP_160 (at_1 (h := _) hS3) rfl ?_
    refine fx_isub d_FP_cut_36 ?_
    exact fx_end (some (.int (zI ((h.2.1 1 1) - (h3.2.1 1 1))))) ⟨⟨_, rfl, rfl⟩, d_FP_cut_37⟩ (Nat.le_refl _) (Nat.le_refl _) rfl H
  · replace H := H.2 z2
    exact H.elim

