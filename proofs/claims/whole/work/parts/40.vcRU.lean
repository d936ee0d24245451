/-! what is owed of the numbers, by program (wip/printvc.py) -/
set_option maxRecDepth 100000 in
set_option maxHeartbeats 4000000 in
theorem e_RU_pack {l : Launch} {Q : Option Value → fx_H → Prop} {h : fx_H} {p : Nat} {x : Int} {y : Int} {hp_a : Nat} {hx_a : Nat} {a : Nat → Nat} {pp dd : Nat} (hS : h.1 = fx_S0 a pp dd) (hp : h.1[p]? = some (hp_a, .inl (10, [some (p + 1), none, none, none]))) (hx : h.1[(p + 1)]? = some (hx_a, .inr (0, 960)))
    (H : fx_Mt l M_PI_rowBytes (0, 0) [.ref p] h (fun v h1 => ∃ r3 : Int, v = some (.int (zI r3)) ∧ h1.1 = h.1 ∧ zR r3 ∧ (fx_V l M_RU_pack (0, 0) Q 0 0 17 [some (.ref 14), some (.ref p), none, some (.int (zI y)), some (.int (zI (if 20 < r3 then 20 else r3))), some (.int (zI x)), none] [] h1))) :
    fx_Mt l M_RU_pack (0, 0) [.ref 14, .ref p, .int (zI x), .int (zI y)] h Q := by
  refine fx_entry (ls := [some (.ref 14), some (.ref p), some (.int (zI x)), some (.int (zI y)), none, none, none]) (by decide) (Nat.le_of_ble_eq_true rfl) rfl ?_
  refine fx_aload_n (i := 1) d_RU_pack_0 rfl rfl ?_
  refine fx_callV (M' := M_PI_rowBytes) (B' := (0, 0)) (vs := []) (rest := []) (c1 := 0) (s1 := 0) (n := 4) d_RU_pack_1 ca_RU_pack_23 hp rfl rfl rfl ⟨by decide, by decide⟩ (Nat.le_of_ble_eq_true rfl) (Or.inl rfl) (fx_Mt.mono H fun v h1 hv => ?_)
  obtain ⟨r3, rfl, e2, H⟩ := hv
  have hS1 := e2.trans hS
  have hp1 : h1.1[p]? = some (hp_a, .inl (10, [some (p + 1), none, none, none])) := by rw [e2]; exact hp
  have hx1 : h1.1[(p + 1)]? = some (hx_a, .inr (0, 960)) := by rw [e2]; exact hx
  show fx_V l M_RU_pack (0, 0) Q 0 0 4 [some (.ref 14), some (.ref p), some (.int (zI x)), some (.int (zI y)), none, none, none] [.int (zI r3)] h1
  refine fx_aload_n (i := 0) d_RU_pack_4 rfl rfl ?_
  refine fx_getR (q := 15) d_RU_pack_5 lk_RU_19 (at_14 (h := _) hS1) rfl rfl ?_
  refine fx_alen (v := 20) d_RU_pack_8 (at_15 (h := _) hS1) rfl ?_
  obtain ⟨hz4, H⟩ := H
  refine fx_min d_RU_pack_9 mm_RU_29 mw_min_s mw_i mw_min_c ⟨by decide, by decide⟩ (Nat.le_of_ble_eq_true rfl) ⟨Nat.le_refl _, Nat.le_refl _⟩ hz4 (show zR 20 by decide) ?_
  refine fx_istore (ls2 := [some (.ref 14), some (.ref p), some (.int (zI x)), some (.int (zI y)), some (.int (zI (if 20 < r3 then 20 else r3))), none, none]) d_RU_pack_12 (by decide) rfl ?_
  refine fx_iload_n (i := 2) d_RU_pack_14 rfl rfl ?_
  refine fx_istore (ls2 := [some (.ref 14), some (.ref p), some (.int (zI x)), some (.int (zI y)), some (.int (zI (if 20 < r3 then 20 else r3))), some (.int (zI x)), none]) d_RU_pack_15 (by decide) rfl ?_
  exact fx_fewer [some (.ref 14), some (.ref p), none, some (.int (zI y)), some (.int (zI (if 20 < r3 then 20 else r3))), some (.int (zI x)), none] ⟨rfl, rfl, rfl, rfl, rfl, trivial⟩ H

set_option maxRecDepth 100000 in
set_option maxHeartbeats 4000000 in
theorem w_RU_pack_17 {l : Launch} {Q : Option Value → fx_H → Prop} {h : fx_H} {p : Nat} {x3 : Int} {x4 : Int} {x5 : Int} {hp_a : Nat} {hx_a : Nat} {a : Nat → Nat} {pp dd : Nat} (hS : h.1 = fx_S0 a pp dd) (hp : h.1[p]? = some (hp_a, .inl (10, [some (p + 1), none, none, none]))) (hx : h.1[(p + 1)]? = some (hx_a, .inr (0, 960)))
    (H : zR x5 ∧ zR x3 ∧ ((x3 ≤ x5 → Q none h) ∧ (¬ (x3 ≤ x5) → (fx_V l M_RU_pack (0, 0) Q 0 0 26 [some (.ref 14), some (.ref p), none, some (.int (zI x3)), some (.int (zI x4)), some (.int (zI x5)), some (.int (zI 0))] [] h)))) :
    fx_V l M_RU_pack (0, 0) Q 0 0 17 [some (.ref 14), some (.ref p), none, some (.int (zI x3)), some (.int (zI x4)), some (.int (zI x5)), none] [] h := by
  refine fx_iload d_RU_pack_17 rfl ?_
  refine fx_iload_n (i := 3) d_RU_pack_19 rfl rfl ?_
  obtain ⟨hz1, H⟩ := H
  obtain ⟨hz2, H⟩ := H
  refine fx_icmp_ge (t := 66) (n := 23) d_RU_pack_20 hz1 hz2 (fun z3 => ?_) (fun z3 => ?_)
  · replace H := H.1 z3
    exact fx_end none ⟨rfl, d_RU_pack_66⟩ (Nat.le_refl _) (Nat.le_refl _) rfl H
  · replace H := H.2 z3
    refine fx_iconst d_RU_pack_23 ?_
    refine fx_istore (ls2 := [some (.ref 14), some (.ref p), none, some (.int (zI x3)), some (.int (zI x4)), some (.int (zI x5)), some (.int (zI 0))]) d_RU_pack_24 (by decide) rfl ?_
    exact H

set_option maxRecDepth 100000 in
set_option maxHeartbeats 4000000 in
theorem w_RU_pack_26 {l : Launch} {Q : Option Value → fx_H → Prop} {h : fx_H} {p : Nat} {x3 : Int} {x4 : Int} {x5 : Int} {x6 : Int} {hp_a : Nat} {hx_a : Nat} {a : Nat → Nat} {pp dd : Nat} (hS : h.1 = fx_S0 a pp dd) (hp : h.1[p]? = some (hp_a, .inl (10, [some (p + 1), none, none, none]))) (hx : h.1[(p + 1)]? = some (hx_a, .inr (0, 960)))
    (H : zR x6 ∧ zR x4 ∧ ((x4 ≤ x6 → fx_Mt l M_RU_packRow (0, 0) [.ref 14, .int (zI x4)] h (fun v h4 => v = none ∧ h4.1 = h.1 ∧ (fx_V l M_RU_pack (0, 0) Q 0 0 17 [some (.ref 14), some (.ref p), none, some (.int (zI x3)), some (.int (zI x4)), some (.int (zI (x5 + 1))), none] [] h4))) ∧ (¬ (x4 ≤ x6) → fx_Mt l M_PI_rowByte (0, 0) [.ref p, .int (zI x5), .int (zI x6)] h (fun v h6 => ∃ r8 : Int, v = some (.int (zI r8)) ∧ h6.1 = h.1 ∧ 0 ≤ x6 ∧ x6 < 20 ∧ (fx_V l M_RU_pack (0, 0) Q 0 0 26 [some (.ref 14), some (.ref p), none, some (.int (zI x3)), some (.int (zI x4)), some (.int (zI x5)), some (.int (zI (x6 + 1)))] [] (fx_uA h6 15 (x6.toNat) r8)))))) :
    fx_V l M_RU_pack (0, 0) Q 0 0 26 [some (.ref 14), some (.ref p), none, some (.int (zI x3)), some (.int (zI x4)), some (.int (zI x5)), some (.int (zI x6))] [] h := by
  refine fx_iload d_RU_pack_26 rfl ?_
  refine fx_iload d_RU_pack_28 rfl ?_
  obtain ⟨hz1, H⟩ := H
  obtain ⟨hz2, H⟩ := H
  refine fx_icmp_ge (t := 54) (n := 33) d_RU_pack_30 hz1 hz2 (fun z3 => ?_) (fun z3 => ?_)
  · replace H := H.1 z3
    refine fx_aload_n (i := 0) d_RU_pack_54 rfl rfl ?_
    refine fx_iload d_RU_pack_55 rfl ?_
    refine fx_callV (M' := M_RU_packRow) (B' := (0, 0)) (vs := [.int (zI x4)]) (rest := []) (c1 := 0) (s1 := 0) (n := 60) d_RU_pack_57 ca_RU_pack_38 (at_14 (h := _) hS) rfl rfl rfl ⟨by decide, by decide⟩ (Nat.le_of_ble_eq_true rfl) (Or.inl rfl) (fx_Mt.mono H fun v h4 hv => ?_)
    obtain ⟨rfl, e5, H⟩ := hv
    have hS4 := e5.trans hS
    have hp4 : h4.1[p]? = some (hp_a, .inl (10, [some (p + 1), none, none, none])) := by rw [e5]; exact hp
    have hx4 : h4.1[(p + 1)]? = some (hx_a, .inr (0, 960)) := by rw [e5]; exact hx
    show fx_V l M_RU_pack (0, 0) Q 0 0 60 [some (.ref 14), some (.ref p), none, some (.int (zI x3)), some (.int (zI x4)), some (.int (zI x5)), some (.int (zI x6))] [] h4
    refine fx_iinc (v := x5 + 1) (ls2 := [some (.ref 14), some (.ref p), none, some (.int (zI x3)), some (.int (zI x4)), some (.int (zI (x5 + 1))), some (.int (zI x6))]) d_RU_pack_60 rfl rfl (by decide) rfl ?_
    refine fx_goto (n := 17) d_RU_pack_63 ?_
    exact fx_fewer [some (.ref 14), some (.ref p), none, some (.int (zI x3)), some (.int (zI x4)), some (.int (zI (x5 + 1))), none] ⟨rfl, rfl, rfl, rfl, rfl, trivial⟩ H
  · replace H := H.2 z3
    refine fx_aload_n (i := 0) d_RU_pack_33 rfl rfl ?_
    refine fx_getR (q := 15) d_RU_pack_34 lk_RU_19 (at_14 (h := _) hS) rfl rfl ?_
    refine fx_iload d_RU_pack_37 rfl ?_
    refine fx_aload_n (i := 1) d_RU_pack_39 rfl rfl ?_
    refine fx_iload d_RU_pack_40 rfl ?_
    refine fx_iload d_RU_pack_42 rfl ?_
    refine fx_callV (M' := M_PI_rowByte) (B' := (0, 0)) (vs := [.int (zI x5), .int (zI x6)]) (rest := [.int (zI x6), .ref 15]) (c1 := 0) (s1 := 0) (n := 47) d_RU_pack_44 ca_RU_pack_35 hp rfl rfl rfl ⟨by decide, by decide⟩ (Nat.le_of_ble_eq_true rfl) (Or.inl rfl) (fx_Mt.mono H fun v h6 hv => ?_)
    obtain ⟨r8, rfl, e7, H⟩ := hv
    have hS6 := e7.trans hS
    have hp6 : h6.1[p]? = some (hp_a, .inl (10, [some (p + 1), none, none, none])) := by rw [e7]; exact hp
    have hx6 : h6.1[(p + 1)]? = some (hx_a, .inr (0, 960)) := by rw [e7]; exact hx
    show fx_V l M_RU_pack (0, 0) Q 0 0 47 [some (.ref 14), some (.ref p), none, some (.int (zI x3)), some (.int (zI x4)), some (.int (zI x5)), some (.int (zI x6))] [.int (zI r8), .int (zI x6), .ref 15] h6
    obtain ⟨hn9, H⟩ := H
    obtain ⟨hn10, H⟩ := H
    refine fx_iast d_RU_pack_47 (at_15 (h := _) hS6) hn9 hn10 (by decide) ?_
    refine fx_iinc (v := x6 + 1) (ls2 := [some (.ref 14), some (.ref p), none, some (.int (zI x3)), some (.int (zI x4)), some (.int (zI x5)), some (.int (zI (x6 + 1)))]) d_RU_pack_48 rfl rfl (by decide) rfl ?_
    refine fx_goto (n := 26) d_RU_pack_51 ?_
    exact H

set_option maxRecDepth 100000 in
set_option maxHeartbeats 4000000 in
theorem e_RU_packRow {l : Launch} {Q : Option Value → fx_H → Prop} {h : fx_H}  {n : Int}  {a : Nat → Nat} {pp dd : Nat} (hS : h.1 = fx_S0 a pp dd) 
    (H : (fx_V l M_RU_packRow (0, 0) Q 0 0 4 [some (.ref 14), some (.int (zI n)), some (.int (zI 0)), some (.int (zI 0)), none, none] [] h)) :
    fx_Mt l M_RU_packRow (0, 0) [.ref 14, .int (zI n)] h Q := by
  refine fx_entry (ls := [some (.ref 14), some (.int (zI n)), none, none, none, none]) (by decide) (Nat.le_of_ble_eq_true rfl) rfl ?_
  refine fx_iconst d_RU_packRow_0 ?_
  refine fx_istore_n (i := 2) (ls2 := [some (.ref 14), some (.int (zI n)), some (.int (zI 0)), none, none, none]) d_RU_packRow_1 rfl (by decide) rfl ?_
  refine fx_iconst d_RU_packRow_2 ?_
  refine fx_istore_n (i := 3) (ls2 := [some (.ref 14), some (.int (zI n)), some (.int (zI 0)), some (.int (zI 0)), none, none]) d_RU_packRow_3 rfl (by decide) rfl ?_
  exact H

set_option maxRecDepth 100000 in
set_option maxHeartbeats 4000000 in
theorem w_RU_packRow_4 {l : Launch} {Q : Option Value → fx_H → Prop} {h : fx_H}  {x1 : Int} {x2 : Int} {x3 : Int}  {a : Nat → Nat} {pp dd : Nat} (hS : h.1 = fx_S0 a pp dd) 
    (H : zR x3 ∧ zR x1 ∧ ((x1 ≤ x3 → Q none h) ∧ (¬ (x1 ≤ x3) → zR x2 ∧ ((x1 ≤ x2 → Q none h) ∧ (¬ (x1 ≤ x2) → fx_Mt l M_RU_endOfSame (0, 0) [.ref 14, .int (zI x2), .int (zI x1)] h (fun v h6 => ∃ r8 : Int, v = some (.int (zI r8)) ∧ h6.1 = h.1 ∧ zR (r8 - x2) ∧ (((r8 - x2) ≤ 1 → fx_Mt l M_RU_endOfDifferent (0, 0) [.ref 14, .int (zI x2), .int (zI x1)] h6 (fun v h11 => ∃ r13 : Int, v = some (.int (zI r13)) ∧ h11.1 = h6.1 ∧ fx_Mt l M_BY_append (0, 0) [.ref 1, .int (zI ((r13 - x2) - 1))] h11 (fun v h14 => v = none ∧ h14.1 = h11.1 ∧ (fx_V l M_RU_packRow (0, 0) Q 0 0 85 [some (.ref 14), some (.int (zI x1)), none, some (.int (zI x3)), some (.int (zI r13)), some (.int (zI x2))] [] h14)))) ∧ (¬ ((r8 - x2) ≤ 1) → fx_Mt l M_BY_append (0, 0) [.ref 1, .int (zI (257 - (r8 - x2)))] h6 (fun v h16 => v = none ∧ h16.1 = h6.1 ∧ 0 ≤ x2 ∧ x2 < 20 ∧ fx_Mt l M_BY_append (0, 0) [.ref 1, .int (zI (h16.2.2.1 15 (x2.toNat)))] h16 (fun v h20 => v = none ∧ h20.1 = h16.1 ∧ (fx_V l M_RU_packRow (0, 0) Q 0 0 4 [some (.ref 14), some (.int (zI x1)), some (.int (zI r8)), some (.int (zI (x3 + 1))), none, none] [] h20))))))))))) :
    fx_V l M_RU_packRow (0, 0) Q 0 0 4 [some (.ref 14), some (.int (zI x1)), some (.int (zI x2)), some (.int (zI x3)), none, none] [] h := by
  refine fx_iload_n (i := 3) d_RU_packRow_4 rfl rfl ?_
  refine fx_iload_n (i := 1) d_RU_packRow_5 rfl rfl ?_
  obtain ⟨hz1, H⟩ := H
  obtain ⟨hz2, H⟩ := H
  refine fx_icmp_ge (t := 121) (n := 9) d_RU_packRow_6 hz1 hz2 (fun z3 => ?_) (fun z3 => ?_)
  · replace H := H.1 z3
    exact fx_end none ⟨rfl, d_RU_packRow_121⟩ (Nat.le_refl _) (Nat.le_refl _) rfl H
  · replace H := H.2 z3
    refine fx_iload_n (i := 2) d_RU_packRow_9 rfl rfl ?_
    refine fx_iload_n (i := 1) d_RU_packRow_10 rfl rfl ?_
    obtain ⟨hz4, H⟩ := H
    refine fx_icmp_ge (t := 121) (n := 14) d_RU_packRow_11 hz4 hz2 (fun z5 => ?_) (fun z5 => ?_)
    · replace H := H.1 z5
      exact fx_end none ⟨rfl, d_RU_packRow_121⟩ (Nat.le_refl _) (Nat.le_refl _) rfl H
    · replace H := H.2 z5
      refine fx_aload_n (i := 0) d_RU_packRow_14 rfl rfl ?_
      refine fx_iload_n (i := 2) d_RU_packRow_15 rfl rfl ?_
      refine fx_iload_n (i := 1) d_RU_packRow_16 rfl rfl ?_
      refine fx_callV (M' := M_RU_endOfSame) (B' := (0, 0)) (vs := [.int (zI x2), .int (zI x1)]) (rest := []) (c1 := 0) (s1 := 0) (n := 20) d_RU_packRow_17 ca_RU_packRow_42 (at_14 (h := _) hS) rfl rfl rfl ⟨by decide, by decide⟩ (Nat.le_of_ble_eq_true rfl) (Or.inl rfl) (fx_Mt.mono H fun v h6 hv => ?_)
      obtain ⟨r8, rfl, e7, H⟩ := hv
      have hS6 := e7.trans hS
      show fx_V l M_RU_packRow (0, 0) Q 0 0 20 [some (.ref 14), some (.int (zI x1)), some (.int (zI x2)), some (.int (zI x3)), none, none] [.int (zI r8)] h6
      refine fx_istore (ls2 := [some (.ref 14), some (.int (zI x1)), some (.int (zI x2)), some (.int (zI x3)), some (.int (zI r8)), none]) d_RU_packRow_20 (by decide) rfl ?_
      refine fx_iload d_RU_packRow_22 rfl ?_
      refine fx_iload_n (i := 2) d_RU_packRow_24 rfl rfl ?_
      refine fx_isub d_RU_packRow_25 ?_
      refine fx_iconst d_RU_packRow_26 ?_
      obtain ⟨hz9, H⟩ := H
      refine fx_icmp_le (t := 61) (n := 30) d_RU_packRow_27 hz9 (show zR 1 by decide) (fun z10 => ?_) (fun z10 => ?_)
      · replace H := H.1 z10
        refine fx_aload_n (i := 0) d_RU_packRow_61 rfl rfl ?_
        refine fx_iload_n (i := 2) d_RU_packRow_62 rfl rfl ?_
        refine fx_iload_n (i := 1) d_RU_packRow_63 rfl rfl ?_
        refine fx_callV (M' := M_RU_endOfDifferent) (B' := (0, 0)) (vs := [.int (zI x2), .int (zI x1)]) (rest := []) (c1 := 0) (s1 := 0) (n := 67) d_RU_packRow_64 ca_RU_packRow_50 (at_14 (h := _) hS6) rfl rfl rfl ⟨by decide, by decide⟩ (Nat.le_of_ble_eq_true rfl) (Or.inl rfl) (fx_Mt.mono H fun v h11 hv => ?_)
        obtain ⟨r13, rfl, e12, H⟩ := hv
        have hS11 := e12.trans hS6
        show fx_V l M_RU_packRow (0, 0) Q 0 0 67 [some (.ref 14), some (.int (zI x1)), some (.int (zI x2)), some (.int (zI x3)), some (.int (zI r8)), none] [.int (zI r13)] h11
        refine fx_istore (ls2 := [some (.ref 14), some (.int (zI x1)), some (.int (zI x2)), some (.int (zI x3)), some (.int (zI r13)), none]) d_RU_packRow_67 (by decide) rfl ?_
        refine fx_aload_n (i := 0) d_RU_packRow_69 rfl rfl ?_
        refine fx_getR (q := 1) d_RU_packRow_70 lk_RU_9 (at_14 (h := _) hS11) rfl rfl ?_
        refine fx_iload d_RU_packRow_73 rfl ?_
        refine fx_iload_n (i := 2) d_RU_packRow_75 rfl rfl ?_
        refine fx_isub d_RU_packRow_76 ?_
        refine fx_iconst d_RU_packRow_77 ?_
        refine fx_isub d_RU_packRow_78 ?_
        refine fx_callV (M' := M_BY_append) (B' := (0, 0)) (vs := [.int (zI ((r13 - x2) - 1))]) (rest := []) (c1 := 0) (s1 := 0) (n := 82) d_RU_packRow_79 ca_RU_packRow_45 (at_1 (h := _) hS11) rfl rfl rfl ⟨by decide, by decide⟩ (Nat.le_of_ble_eq_true rfl) (Or.inl rfl) (fx_Mt.mono H fun v h14 hv => ?_)
        obtain ⟨rfl, e15, H⟩ := hv
        have hS14 := e15.trans hS11
        show fx_V l M_RU_packRow (0, 0) Q 0 0 82 [some (.ref 14), some (.int (zI x1)), some (.int (zI x2)), some (.int (zI x3)), some (.int (zI r13)), none] [] h14
        refine fx_iload_n (i := 2) d_RU_packRow_82 rfl rfl ?_
        refine fx_istore (ls2 := [some (.ref 14), some (.int (zI x1)), some (.int (zI x2)), some (.int (zI x3)), some (.int (zI r13)), some (.int (zI x2))]) d_RU_packRow_83 (by decide) rfl ?_
        exact fx_fewer [some (.ref 14), some (.int (zI x1)), none, some (.int (zI x3)), some (.int (zI r13)), some (.int (zI x2))] ⟨rfl, rfl, rfl, rfl, rfl, trivial⟩ H
      · replace H := H.2 z10
        refine fx_aload_n (i := 0) d_RU_packRow_30 rfl rfl ?_
        refine fx_getR (q := 1) d_RU_packRow_31 lk_RU_9 (at_14 (h := _) hS6) rfl rfl ?_
        refine fx_sipush (v := 257) d_RU_packRow_34 rfl ?_
        refine fx_iload d_RU_packRow_37 rfl ?_
        refine fx_iload_n (i := 2) d_RU_packRow_39 rfl rfl ?_
        refine fx_isub d_RU_packRow_40 ?_
        refine fx_isub d_RU_packRow_41 ?_
        refine fx_callV (M' := M_BY_append) (B' := (0, 0)) (vs := [.int (zI (257 - (r8 - x2)))]) (rest := []) (c1 := 0) (s1 := 0) (n := 45) d_RU_packRow_42 ca_RU_packRow_45 (at_1 (h := _) hS6) rfl rfl rfl ⟨by decide, by decide⟩ (Nat.le_of_ble_eq_true rfl) (Or.inl rfl) (fx_Mt.mono H fun v h16 hv => ?_)
        obtain ⟨rfl, e17, H⟩ := hv
        have hS16 := e17.trans hS6
        show fx_V l M_RU_packRow (0, 0) Q 0 0 45 [some (.ref 14), some (.int (zI x1)), some (.int (zI x2)), some (.int (zI x3)), some (.int (zI r8)), none] [] h16
        refine fx_aload_n (i := 0) d_RU_packRow_45 rfl rfl ?_
        refine fx_getR (q := 1) d_RU_packRow_46 lk_RU_9 (at_14 (h := _) hS16) rfl rfl ?_
        refine fx_aload_n (i := 0) d_RU_packRow_49 rfl rfl ?_
        refine fx_getR (q := 15) d_RU_packRow_50 lk_RU_19 (at_14 (h := _) hS16) rfl rfl ?_
        refine fx_iload_n (i := 2) d_RU_packRow_53 rfl rfl ?_
        obtain ⟨hn18, H⟩ := H
        obtain ⟨hn19, H⟩ := H
        refine fx_iald d_RU_packRow_54 (at_15 (h := _) hS16) hn18 hn19 (by decide) ?_
        refine fx_callV (M' := M_BY_append) (B' := (0, 0)) (vs := [.int (zI (h16.2.2.1 15 (x2.toNat)))]) (rest := []) (c1 := 0) (s1 := 0) (n := 58) d_RU_packRow_55 ca_RU_packRow_45 (at_1 (h := _) hS16) rfl rfl rfl ⟨by decide, by decide⟩ (Nat.le_of_ble_eq_true rfl) (Or.inl rfl) (fx_Mt.mono H fun v h20 hv => ?_)
        obtain ⟨rfl, e21, H⟩ := hv
        have hS20 := e21.trans hS16
        show fx_V l M_RU_packRow (0, 0) Q 0 0 58 [some (.ref 14), some (.int (zI x1)), some (.int (zI x2)), some (.int (zI x3)), some (.int (zI r8)), none] [] h20
        refine fx_goto (n := 112) d_RU_packRow_58 ?_
        refine fx_iload d_RU_packRow_112 rfl ?_
        refine fx_istore_n (i := 2) (ls2 := [some (.ref 14), some (.int (zI x1)), some (.int (zI r8)), some (.int (zI x3)), some (.int (zI r8)), none]) d_RU_packRow_114 rfl (by decide) rfl ?_
        refine fx_iinc (v := x3 + 1) (ls2 := [some (.ref 14), some (.int (zI x1)), some (.int (zI r8)), some (.int (zI (x3 + 1))), some (.int (zI r8)), none]) d_RU_packRow_115 rfl rfl (by decide) rfl ?_
        refine fx_goto (n := 4) d_RU_packRow_118 ?_
        exact fx_fewer [some (.ref 14), some (.int (zI x1)), some (.int (zI r8)), some (.int (zI (x3 + 1))), none, none] ⟨rfl, rfl, rfl, rfl, trivial⟩ H

set_option maxRecDepth 100000 in
set_option maxHeartbeats 4000000 in
theorem w_RU_packRow_85 {l : Launch} {Q : Option Value → fx_H → Prop} {h : fx_H}  {x1 : Int} {x3 : Int} {x4 : Int} {x5 : Int}  {a : Nat → Nat} {pp dd : Nat} (hS : h.1 = fx_S0 a pp dd) 
    (H : zR x5 ∧ zR x4 ∧ ((x4 ≤ x5 → (fx_V l M_RU_packRow (0, 0) Q 0 0 4 [some (.ref 14), some (.int (zI x1)), some (.int (zI x4)), some (.int (zI (x3 + 1))), none, none] [] h)) ∧ (¬ (x4 ≤ x5) → 0 ≤ x5 ∧ x5 < 20 ∧ fx_Mt l M_BY_append (0, 0) [.ref 1, .int (zI (h.2.2.1 15 (x5.toNat)))] h (fun v h6 => v = none ∧ h6.1 = h.1 ∧ (fx_V l M_RU_packRow (0, 0) Q 0 0 85 [some (.ref 14), some (.int (zI x1)), none, some (.int (zI x3)), some (.int (zI x4)), some (.int (zI (x5 + 1)))] [] h6))))) :
    fx_V l M_RU_packRow (0, 0) Q 0 0 85 [some (.ref 14), some (.int (zI x1)), none, some (.int (zI x3)), some (.int (zI x4)), some (.int (zI x5))] [] h := by
  refine fx_iload d_RU_packRow_85 rfl ?_
  refine fx_iload d_RU_packRow_87 rfl ?_
  obtain ⟨hz1, H⟩ := H
  obtain ⟨hz2, H⟩ := H
  refine fx_icmp_ge (t := 112) (n := 92) d_RU_packRow_89 hz1 hz2 (fun z3 => ?_) (fun z3 => ?_)
  · replace H := H.1 z3
    refine fx_iload d_RU_packRow_112 rfl ?_
    refine fx_istore_n (i := 2) (ls2 := [some (.ref 14), some (.int (zI x1)), some (.int (zI x4)), some (.int (zI x3)), some (.int (zI x4)), some (.int (zI x5))]) d_RU_packRow_114 rfl (by decide) rfl ?_
    refine fx_iinc (v := x3 + 1) (ls2 := [some (.ref 14), some (.int (zI x1)), some (.int (zI x4)), some (.int (zI (x3 + 1))), some (.int (zI x4)), some (.int (zI x5))]) d_RU_packRow_115 rfl rfl (by decide) rfl ?_
    refine fx_goto (n := 4) d_RU_packRow_118 ?_
    exact fx_fewer [some (.ref 14), some (.int (zI x1)), some (.int (zI x4)), some (.int (zI (x3 + 1))), none, none] ⟨rfl, rfl, rfl, rfl, trivial⟩ H
  · replace H := H.2 z3
    refine fx_aload_n (i := 0) d_RU_packRow_92 rfl rfl ?_
    refine fx_getR (q := 1) d_RU_packRow_93 lk_RU_9 (at_14 (h := _) hS) rfl rfl ?_
    refine fx_aload_n (i := 0) d_RU_packRow_96 rfl rfl ?_
    refine fx_getR (q := 15) d_RU_packRow_97 lk_RU_19 (at_14 (h := _) hS) rfl rfl ?_
    refine fx_iload d_RU_packRow_100 rfl ?_
    obtain ⟨hn4, H⟩ := H
    obtain ⟨hn5, H⟩ := H
    refine fx_iald d_RU_packRow_102 (at_15 (h := _) hS) hn4 hn5 (by decide) ?_
    refine fx_callV (M' := M_BY_append) (B' := (0, 0)) (vs := [.int (zI (h.2.2.1 15 (x5.toNat)))]) (rest := []) (c1 := 0) (s1 := 0) (n := 106) d_RU_packRow_103 ca_RU_packRow_45 (at_1 (h := _) hS) rfl rfl rfl ⟨by decide, by decide⟩ (Nat.le_of_ble_eq_true rfl) (Or.inl rfl) (fx_Mt.mono H fun v h6 hv => ?_)
    obtain ⟨rfl, e7, H⟩ := hv
    have hS6 := e7.trans hS
    show fx_V l M_RU_packRow (0, 0) Q 0 0 106 [some (.ref 14), some (.int (zI x1)), none, some (.int (zI x3)), some (.int (zI x4)), some (.int (zI x5))] [] h6
    refine fx_iinc (v := x5 + 1) (ls2 := [some (.ref 14), some (.int (zI x1)), none, some (.int (zI x3)), some (.int (zI x4)), some (.int (zI (x5 + 1)))]) d_RU_packRow_106 rfl rfl (by decide) rfl ?_
    refine fx_goto (n := 85) d_RU_packRow_109 ?_
    exact H

set_option maxRecDepth 100000 in
set_option maxHeartbeats 4000000 in
theorem e_RU_endOfSame {l : Launch} {Q : Option Value → fx_H → Prop} {h : fx_H}  {b : Int} {n : Int}  {a : Nat → Nat} {pp dd : Nat} (hS : h.1 = fx_S0 a pp dd) 
    (H : (fx_V l M_RU_endOfSame (0, 0) Q 0 0 4 [some (.ref 14), some (.int (zI b)), some (.int (zI n)), some (.int (zI (b + 1)))] [] h)) :
    fx_Mt l M_RU_endOfSame (0, 0) [.ref 14, .int (zI b), .int (zI n)] h Q := by
  refine fx_entry (ls := [some (.ref 14), some (.int (zI b)), some (.int (zI n)), none]) (by decide) (Nat.le_of_ble_eq_true rfl) rfl ?_
  refine fx_iload_n (i := 1) d_RU_endOfSame_0 rfl rfl ?_
  refine fx_iconst d_RU_endOfSame_1 ?_
  refine fx_iadd d_RU_endOfSame_2 ?_
  refine fx_istore_n (i := 3) (ls2 := [some (.ref 14), some (.int (zI b)), some (.int (zI n)), some (.int (zI (b + 1)))]) d_RU_endOfSame_3 rfl (by decide) rfl ?_
  exact H

set_option maxRecDepth 100000 in
set_option maxHeartbeats 4000000 in
theorem w_RU_endOfSame_4 {l : Launch} {Q : Option Value → fx_H → Prop} {h : fx_H}  {x1 : Int} {x2 : Int} {x3 : Int}  {a : Nat → Nat} {pp dd : Nat} (hS : h.1 = fx_S0 a pp dd) 
    (H : zR x3 ∧ zR x2 ∧ ((x2 ≤ x3 → Q (some (.int (zI x2))) h) ∧ (¬ (x2 ≤ x3) → 0 ≤ x3 ∧ x3 < 20 ∧ 0 ≤ x1 ∧ x1 < 20 ∧ zR (h.2.2.1 15 (x3.toNat)) ∧ zR (h.2.2.1 15 (x1.toNat)) ∧ (((h.2.2.1 15 (x3.toNat)) = (h.2.2.1 15 (x1.toNat)) → (fx_V l M_RU_endOfSame (0, 0) Q 0 0 4 [some (.ref 14), some (.int (zI x1)), some (.int (zI x2)), some (.int (zI (x3 + 1)))] [] h)) ∧ (¬ ((h.2.2.1 15 (x3.toNat)) = (h.2.2.1 15 (x1.toNat))) → Q (some (.int (zI x3))) h))))) :
    fx_V l M_RU_endOfSame (0, 0) Q 0 0 4 [some (.ref 14), some (.int (zI x1)), some (.int (zI x2)), some (.int (zI x3))] [] h := by
  refine fx_iload_n (i := 3) d_RU_endOfSame_4 rfl rfl ?_
  refine fx_iload_n (i := 2) d_RU_endOfSame_5 rfl rfl ?_
  obtain ⟨hz1, H⟩ := H
  obtain ⟨hz2, H⟩ := H
  refine fx_icmp_ge (t := 32) (n := 9) d_RU_endOfSame_6 hz1 hz2 (fun z3 => ?_) (fun z3 => ?_)
  · replace H := H.1 z3
    refine fx_iload_n (i := 2) d_RU_endOfSame_32 rfl rfl ?_
    exact fx_end (some (.int (zI x2))) ⟨⟨_, rfl, rfl⟩, d_RU_endOfSame_33⟩ (Nat.le_refl _) (Nat.le_refl _) rfl H
  · replace H := H.2 z3
    refine fx_aload_n (i := 0) d_RU_endOfSame_9 rfl rfl ?_
    refine fx_getR (q := 15) d_RU_endOfSame_10 lk_RU_19 (at_14 (h := _) hS) rfl rfl ?_
    refine fx_iload_n (i := 3) d_RU_endOfSame_13 rfl rfl ?_
    obtain ⟨hn4, H⟩ := H
    obtain ⟨hn5, H⟩ := H
    refine fx_iald d_RU_endOfSame_14 (at_15 (h := _) hS) hn4 hn5 (by decide) ?_
    refine fx_aload_n (i := 0) d_RU_endOfSame_15 rfl rfl ?_
    refine fx_getR (q := 15) d_RU_endOfSame_16 lk_RU_19 (at_14 (h := _) hS) rfl rfl ?_
    refine fx_iload_n (i := 1) d_RU_endOfSame_19 rfl rfl ?_
    obtain ⟨hn6, H⟩ := H
    obtain ⟨hn7, H⟩ := H
    refine fx_iald d_RU_endOfSame_20 (at_15 (h := _) hS) hn6 hn7 (by decide) ?_
    obtain ⟨hz8, H⟩ := H
    obtain ⟨hz9, H⟩ := H
    refine fx_icmp_eq (t := 26) (n := 24) d_RU_endOfSame_21 hz8 hz9 (fun z10 => ?_) (fun z10 => ?_)
    · replace H := H.1 z10
      refine fx_iinc (v := x3 + 1) (ls2 := [some (.ref 14), some (.int (zI x1)), some (.int (zI x2)), some (.int (zI (x3 + 1)))]) d_RU_endOfSame_26 rfl rfl (by decide) rfl ?_
      refine fx_goto (n := 4) d_RU_endOfSame_29 ?_
      exact H
    · replace H := H.2 z10
      refine fx_iload_n (i := 3) d_RU_endOfSame_24 rfl rfl ?_
      exact fx_end (some (.int (zI x3))) ⟨⟨_, rfl, rfl⟩, d_RU_endOfSame_25⟩ (Nat.le_refl _) (Nat.le_refl _) rfl H

set_option maxRecDepth 100000 in
set_option maxHeartbeats 4000000 in
theorem e_RU_endOfDifferent {l : Launch} {Q : Option Value → fx_H → Prop} {h : fx_H}  {b : Int} {n : Int}  {a : Nat → Nat} {pp dd : Nat} (hS : h.1 = fx_S0 a pp dd) 
    (H : (fx_V l M_RU_endOfDifferent (0, 0) Q 0 0 2 [some (.ref 14), none, some (.int (zI n)), some (.int (zI b))] [] h)) :
    fx_Mt l M_RU_endOfDifferent (0, 0) [.ref 14, .int (zI b), .int (zI n)] h Q := by
  refine fx_entry (ls := [some (.ref 14), some (.int (zI b)), some (.int (zI n)), none]) (by decide) (Nat.le_of_ble_eq_true rfl) rfl ?_
  refine fx_iload_n (i := 1) d_RU_endOfDifferent_0 rfl rfl ?_
  refine fx_istore_n (i := 3) (ls2 := [some (.ref 14), some (.int (zI b)), some (.int (zI n)), some (.int (zI b))]) d_RU_endOfDifferent_1 rfl (by decide) rfl ?_
  exact fx_fewer [some (.ref 14), none, some (.int (zI n)), some (.int (zI b))] ⟨rfl, rfl, rfl, trivial⟩ H

set_option maxRecDepth 100000 in
set_option maxHeartbeats 4000000 in
theorem w_RU_endOfDifferent_2 {l : Launch} {Q : Option Value → fx_H → Prop} {h : fx_H}  {x2 : Int} {x3 : Int}  {a : Nat → Nat} {pp dd : Nat} (hS : h.1 = fx_S0 a pp dd) 
    (H : zR (x3 + 1) ∧ zR x2 ∧ ((x2 ≤ (x3 + 1) → Q (some (.int (zI x2))) h) ∧ (¬ (x2 ≤ (x3 + 1)) → 0 ≤ x3 ∧ x3 < 20 ∧ 0 ≤ (x3 + 1) ∧ (x3 + 1) < 20 ∧ zR (h.2.2.1 15 (x3.toNat)) ∧ zR (h.2.2.1 15 ((x3 + 1).toNat)) ∧ ((¬ (h.2.2.1 15 (x3.toNat)) = (h.2.2.1 15 ((x3 + 1).toNat)) → (fx_V l M_RU_endOfDifferent (0, 0) Q 0 0 2 [some (.ref 14), none, some (.int (zI x2)), some (.int (zI (x3 + 1)))] [] h)) ∧ ((h.2.2.1 15 (x3.toNat)) = (h.2.2.1 15 ((x3 + 1).toNat)) → Q (some (.int (zI x3))) h))))) :
    fx_V l M_RU_endOfDifferent (0, 0) Q 0 0 2 [some (.ref 14), none, some (.int (zI x2)), some (.int (zI x3))] [] h := by
  refine fx_iload_n (i := 3) d_RU_endOfDifferent_2 rfl rfl ?_
  refine fx_iconst d_RU_endOfDifferent_3 ?_
  refine fx_iadd d_RU_endOfDifferent_4 ?_
  refine fx_iload_n (i := 2) d_RU_endOfDifferent_5 rfl rfl ?_
  obtain ⟨hz1, H⟩ := H
  obtain ⟨hz2, H⟩ := H
  refine fx_icmp_ge (t := 34) (n := 9) d_RU_endOfDifferent_6 hz1 hz2 (fun z3 => ?_) (fun z3 => ?_)
  · replace H := H.1 z3
    refine fx_iload_n (i := 2) d_RU_endOfDifferent_34 rfl rfl ?_
    exact fx_end (some (.int (zI x2))) ⟨⟨_, rfl, rfl⟩, d_RU_endOfDifferent_35⟩ (Nat.le_refl _) (Nat.le_refl _) rfl H
  · replace H := H.2 z3
    refine fx_aload_n (i := 0) d_RU_endOfDifferent_9 rfl rfl ?_
    refine fx_getR (q := 15) d_RU_endOfDifferent_10 lk_RU_19 (at_14 (h := _) hS) rfl rfl ?_
    refine fx_iload_n (i := 3) d_RU_endOfDifferent_13 rfl rfl ?_
    obtain ⟨hn4, H⟩ := H
    obtain ⟨hn5, H⟩ := H
    refine fx_iald d_RU_endOfDifferent_14 (at_15 (h := _) hS) hn4 hn5 (by decide) ?_
    refine fx_aload_n (i := 0) d_RU_endOfDifferent_15 rfl rfl ?_
    refine fx_getR (q := 15) d_RU_endOfDifferent_16 lk_RU_19 (at_14 (h := _) hS) rfl rfl ?_
    refine fx_iload_n (i := 3) d_RU_endOfDifferent_19 rfl rfl ?_
    refine fx_iconst d_RU_endOfDifferent_20 ?_
    refine fx_iadd d_RU_endOfDifferent_21 ?_
    obtain ⟨hn6, H⟩ := H
    obtain ⟨hn7, H⟩ := H
    refine fx_iald d_RU_endOfDifferent_22 (at_15 (h := _) hS) hn6 hn7 (by decide) ?_
    obtain ⟨hz8, H⟩ := H
    obtain ⟨hz9, H⟩ := H
    refine fx_icmp_ne (t := 28) (n := 26) d_RU_endOfDifferent_23 hz8 hz9 (fun z10 => ?_) (fun z10 => ?_)
    · replace H := H.1 z10
      refine fx_iinc (v := x3 + 1) (ls2 := [some (.ref 14), none, some (.int (zI x2)), some (.int (zI (x3 + 1)))]) d_RU_endOfDifferent_28 rfl rfl (by decide) rfl ?_
      refine fx_goto (n := 2) d_RU_endOfDifferent_31 ?_
      exact H
    · replace H := H.2 z10
      refine fx_iload_n (i := 3) d_RU_endOfDifferent_26 rfl rfl ?_
      exact fx_end (some (.int (zI x3))) ⟨⟨_, rfl, rfl⟩, d_RU_endOfDifferent_27⟩ (Nat.le_refl _) (Nat.le_refl _) rfl H

set_option maxRecDepth 100000 in
set_option maxHeartbeats 4000000 in
theorem e_RU_unpack {l : Launch} {Q : Option Value → fx_H → Prop} {h : fx_H} {p : Nat} {x : Int} {y : Int} {hp_a : Nat} {hx_a : Nat} {a : Nat → Nat} {pp dd : Nat} (hS : h.1 = fx_S0 a pp dd) (hp : h.1[p]? = some (hp_a, .inl (10, [some (p + 1), none, none, none]))) (hx : h.1[(p + 1)]? = some (hx_a, .inr (0, 960)))
    (H : (fx_V l M_RU_unpack (0, 0) Q 0 0 3 [some (.ref 14), some (.ref p), none, some (.int (zI y)), some (.int (zI x))] [] h)) :
    fx_Mt l M_RU_unpack (0, 0) [.ref 14, .ref p, .int (zI x), .int (zI y)] h Q := by
  refine fx_entry (ls := [some (.ref 14), some (.ref p), some (.int (zI x)), some (.int (zI y)), none]) (by decide) (Nat.le_of_ble_eq_true rfl) rfl ?_
  refine fx_iload_n (i := 2) d_RU_unpack_0 rfl rfl ?_
  refine fx_istore (ls2 := [some (.ref 14), some (.ref p), some (.int (zI x)), some (.int (zI y)), some (.int (zI x))]) d_RU_unpack_1 (by decide) rfl ?_
  exact fx_fewer [some (.ref 14), some (.ref p), none, some (.int (zI y)), some (.int (zI x))] ⟨rfl, rfl, rfl, rfl, trivial⟩ H

set_option maxRecDepth 100000 in
set_option maxHeartbeats 4000000 in
theorem w_RU_unpack_3 {l : Launch} {Q : Option Value → fx_H → Prop} {h : fx_H} {p : Nat} {x3 : Int} {x4 : Int} {hp_a : Nat} {hx_a : Nat} {a : Nat → Nat} {pp dd : Nat} (hS : h.1 = fx_S0 a pp dd) (hp : h.1[p]? = some (hp_a, .inl (10, [some (p + 1), none, none, none]))) (hx : h.1[(p + 1)]? = some (hx_a, .inr (0, 960)))
    (H : zR x4 ∧ zR x3 ∧ ((x3 ≤ x4 → fx_Mt l M_BR_atEnd (0, 0) [.ref 3] h (fun v h4 => ∃ r6 : Int, v = some (.int (zI r6)) ∧ h4.1 = h.1 ∧ (r6 = 0 ∨ r6 = 1) ∧ Q (some (.int (zI r6))) h4)) ∧ (¬ (x3 ≤ x4) → fx_Mt l M_RU_unpackRow (0, 0) [.ref 14, .ref p, .int (zI x4)] h (fun v h8 => ∃ r10 : Int, v = some (.int (zI r10)) ∧ h8.1 = h.1 ∧ zR r10 ∧ ((¬ r10 = 0 → (fx_V l M_RU_unpack (0, 0) Q 0 0 3 [some (.ref 14), some (.ref p), none, some (.int (zI x3)), some (.int (zI (x4 + 1)))] [] h8)) ∧ (r10 = 0 → Q (some (.int (zI 0))) h8)))))) :
    fx_V l M_RU_unpack (0, 0) Q 0 0 3 [some (.ref 14), some (.ref p), none, some (.int (zI x3)), some (.int (zI x4))] [] h := by
  refine fx_iload d_RU_unpack_3 rfl ?_
  refine fx_iload_n (i := 3) d_RU_unpack_5 rfl rfl ?_
  obtain ⟨hz1, H⟩ := H
  obtain ⟨hz2, H⟩ := H
  refine fx_icmp_ge (t := 27) (n := 9) d_RU_unpack_6 hz1 hz2 (fun z3 => ?_) (fun z3 => ?_)
  · replace H := H.1 z3
    refine fx_aload_n (i := 0) d_RU_unpack_27 rfl rfl ?_
    refine fx_getR (q := 3) d_RU_unpack_28 lk_RU_15 (at_14 (h := _) hS) rfl rfl ?_
    refine fx_callV (M' := M_BR_atEnd) (B' := (0, 0)) (vs := []) (rest := []) (c1 := 0) (s1 := 0) (n := 34) d_RU_unpack_31 ca_RU_unpack_57 (at_3 (h := _) hS) rfl rfl rfl ⟨by decide, by decide⟩ (Nat.le_of_ble_eq_true rfl) (Or.inl rfl) (fx_Mt.mono H fun v h4 hv => ?_)
    obtain ⟨r6, rfl, e5, H⟩ := hv
    have hS4 := e5.trans hS
    have hp4 : h4.1[p]? = some (hp_a, .inl (10, [some (p + 1), none, none, none])) := by rw [e5]; exact hp
    have hx4 : h4.1[(p + 1)]? = some (hx_a, .inr (0, 960)) := by rw [e5]; exact hx
    show fx_V l M_RU_unpack (0, 0) Q 0 0 34 [some (.ref 14), some (.ref p), none, some (.int (zI x3)), some (.int (zI x4))] [.int (zI r6)] h4
    obtain ⟨hn7, H⟩ := H
    exact fx_end (some (.int (zI r6))) ⟨⟨_, rfl, fx_nb hn7⟩, d_RU_unpack_34⟩ (Nat.le_refl _) (Nat.le_refl _) rfl H
  · replace H := H.2 z3
    refine fx_aload_n (i := 0) d_RU_unpack_9 rfl rfl ?_
    refine fx_aload_n (i := 1) d_RU_unpack_10 rfl rfl ?_
    refine fx_iload d_RU_unpack_11 rfl ?_
    refine fx_callV (M' := M_RU_unpackRow) (B' := (0, 0)) (vs := [.ref p, .int (zI x4)]) (rest := []) (c1 := 0) (s1 := 0) (n := 16) d_RU_unpack_13 ca_RU_unpack_53 (at_14 (h := _) hS) rfl rfl rfl ⟨by decide, by decide⟩ (Nat.le_of_ble_eq_true rfl) (Or.inl rfl) (fx_Mt.mono H fun v h8 hv => ?_)
    obtain ⟨r10, rfl, e9, H⟩ := hv
    have hS8 := e9.trans hS
    have hp8 : h8.1[p]? = some (hp_a, .inl (10, [some (p + 1), none, none, none])) := by rw [e9]; exact hp
    have hx8 : h8.1[(p + 1)]? = some (hx_a, .inr (0, 960)) := by rw [e9]; exact hx
    show fx_V l M_RU_unpack (0, 0) Q 0 0 16 [some (.ref 14), some (.ref p), none, some (.int (zI x3)), some (.int (zI x4))] [.int (zI r10)] h8
    obtain ⟨hz11, H⟩ := H
    refine fx_if_ne (t := 21) (n := 19) d_RU_unpack_16 hz11 (fun z12 => ?_) (fun z12 => ?_)
    · replace H := H.1 z12
      refine fx_iinc (v := x4 + 1) (ls2 := [some (.ref 14), some (.ref p), none, some (.int (zI x3)), some (.int (zI (x4 + 1)))]) d_RU_unpack_21 rfl rfl (by decide) rfl ?_
      refine fx_goto (n := 3) d_RU_unpack_24 ?_
      exact H
    · replace H := H.2 z12
      refine fx_iconst d_RU_unpack_19 ?_
      exact fx_end (some (.int (zI 0))) ⟨⟨_, rfl, rfl⟩, d_RU_unpack_20⟩ (Nat.le_refl _) (Nat.le_refl _) rfl H

set_option maxRecDepth 100000 in
set_option maxHeartbeats 4000000 in
theorem e_RU_unpackRow {l : Launch} {Q : Option Value → fx_H → Prop} {h : fx_H} {p : Nat} {y : Int} {hp_a : Nat} {hx_a : Nat} {a : Nat → Nat} {pp dd : Nat} (hS : h.1 = fx_S0 a pp dd) (hp : h.1[p]? = some (hp_a, .inl (10, [some (p + 1), none, none, none]))) (hx : h.1[(p + 1)]? = some (hx_a, .inr (0, 960)))
    (H : fx_Mt l M_PI_rowBytes (0, 0) [.ref p] h (fun v h1 => ∃ r3 : Int, v = some (.int (zI r3)) ∧ h1.1 = h.1 ∧ (fx_V l M_RU_unpackRow (0, 0) Q 0 0 11 [some (.ref 14), some (.ref p), some (.int (zI y)), some (.int (zI r3)), some (.int (zI 0)), some (.int (zI 0)), none, none] [] h1))) :
    fx_Mt l M_RU_unpackRow (0, 0) [.ref 14, .ref p, .int (zI y)] h Q := by
  refine fx_entry (ls := [some (.ref 14), some (.ref p), some (.int (zI y)), none, none, none, none, none]) (by decide) (Nat.le_of_ble_eq_true rfl) rfl ?_
  refine fx_aload_n (i := 1) d_RU_unpackRow_0 rfl rfl ?_
  refine fx_callV (M' := M_PI_rowBytes) (B' := (0, 0)) (vs := []) (rest := []) (c1 := 0) (s1 := 0) (n := 4) d_RU_unpackRow_1 ca_RU_unpackRow_23 hp rfl rfl rfl ⟨by decide, by decide⟩ (Nat.le_of_ble_eq_true rfl) (Or.inl rfl) (fx_Mt.mono H fun v h1 hv => ?_)
  obtain ⟨r3, rfl, e2, H⟩ := hv
  have hS1 := e2.trans hS
  have hp1 : h1.1[p]? = some (hp_a, .inl (10, [some (p + 1), none, none, none])) := by rw [e2]; exact hp
  have hx1 : h1.1[(p + 1)]? = some (hx_a, .inr (0, 960)) := by rw [e2]; exact hx
  show fx_V l M_RU_unpackRow (0, 0) Q 0 0 4 [some (.ref 14), some (.ref p), some (.int (zI y)), none, none, none, none, none] [.int (zI r3)] h1
  refine fx_istore_n (i := 3) (ls2 := [some (.ref 14), some (.ref p), some (.int (zI y)), some (.int (zI r3)), none, none, none, none]) d_RU_unpackRow_4 rfl (by decide) rfl ?_
  refine fx_iconst d_RU_unpackRow_5 ?_
  refine fx_istore (ls2 := [some (.ref 14), some (.ref p), some (.int (zI y)), some (.int (zI r3)), some (.int (zI 0)), none, none, none]) d_RU_unpackRow_6 (by decide) rfl ?_
  refine fx_iconst d_RU_unpackRow_8 ?_
  refine fx_istore (ls2 := [some (.ref 14), some (.ref p), some (.int (zI y)), some (.int (zI r3)), some (.int (zI 0)), some (.int (zI 0)), none, none]) d_RU_unpackRow_9 (by decide) rfl ?_
  exact H

set_option maxRecDepth 100000 in
set_option maxHeartbeats 4000000 in
theorem w_RU_unpackRow_11 {l : Launch} {Q : Option Value → fx_H → Prop} {h : fx_H} {p : Nat} {x2 : Int} {x3 : Int} {x4 : Int} {x5 : Int} {hp_a : Nat} {hx_a : Nat} {a : Nat → Nat} {pp dd : Nat} (hS : h.1 = fx_S0 a pp dd) (hp : h.1[p]? = some (hp_a, .inl (10, [some (p + 1), none, none, none]))) (hx : h.1[(p + 1)]? = some (hx_a, .inr (0, 960)))
    (H : zR x5 ∧ ((2000 ≤ x5 → zR x4 ∧ zR x3 ∧ ((¬ x4 = x3 → Q (some (.int (zI 0))) h) ∧ (x4 = x3 → Q (some (.int (zI 1))) h))) ∧ (¬ (2000 ≤ x5) → zR x4 ∧ zR x3 ∧ ((x3 ≤ x4 → ((¬ x4 = x3 → Q (some (.int (zI 0))) h) ∧ (x4 = x3 → Q (some (.int (zI 1))) h))) ∧ (¬ (x3 ≤ x4) → fx_Mt l M_BR_number (0, 0) [.ref 3, .int (zI 8)] h (fun v h10 => ∃ r12 : Int, v = some (.int (zI r12)) ∧ h10.1 = h.1 ∧ zR r12 ∧ ((¬ r12 = 128 → ((128 ≤ r12 → ((r12 < 0 → Q (some (.int (zI 0))) h10) ∧ (¬ (r12 < 0) → zR (x4 + (257 - r12)) ∧ ((x3 < (x4 + (257 - r12)) → Q (some (.int (zI 0))) h10) ∧ (¬ (x3 < (x4 + (257 - r12))) → ((r12 ≤ 128 → fx_Mt l M_RU_unpackRun (0, 0) [.ref 14, .ref p, .int (zI x2), .int (zI x4), .int (zI (257 - r12)), .int (zI 0)] h10 (fun v h20 => ∃ r22 : Int, v = some (.int (zI r22)) ∧ h20.1 = h10.1 ∧ zR r22 ∧ ((¬ r22 = 0 → (fx_V l M_RU_unpackRow (0, 0) Q 0 0 11 [some (.ref 14), some (.ref p), some (.int (zI x2)), some (.int (zI x3)), some (.int (zI (x4 + (257 - r12)))), some (.int (zI (x5 + 1))), none, none] [] h20)) ∧ (r22 = 0 → Q (some (.int (zI 0))) h20)))) ∧ (¬ (r12 ≤ 128) → fx_Mt l M_RU_unpackRun (0, 0) [.ref 14, .ref p, .int (zI x2), .int (zI x4), .int (zI (257 - r12)), .int (zI 1)] h10 (fun v h25 => ∃ r27 : Int, v = some (.int (zI r27)) ∧ h25.1 = h10.1 ∧ zR r27 ∧ ((¬ r27 = 0 → (fx_V l M_RU_unpackRow (0, 0) Q 0 0 11 [some (.ref 14), some (.ref p), some (.int (zI x2)), some (.int (zI x3)), some (.int (zI (x4 + (257 - r12)))), some (.int (zI (x5 + 1))), none, none] [] h25)) ∧ (r27 = 0 → Q (some (.int (zI 0))) h25)))))))))) ∧ (¬ (128 ≤ r12) → ((r12 < 0 → Q (some (.int (zI 0))) h10) ∧ (¬ (r12 < 0) → zR (x4 + (r12 + 1)) ∧ ((x3 < (x4 + (r12 + 1)) → Q (some (.int (zI 0))) h10) ∧ (¬ (x3 < (x4 + (r12 + 1))) → ((r12 ≤ 128 → fx_Mt l M_RU_unpackRun (0, 0) [.ref 14, .ref p, .int (zI x2), .int (zI x4), .int (zI (r12 + 1)), .int (zI 0)] h10 (fun v h34 => ∃ r36 : Int, v = some (.int (zI r36)) ∧ h34.1 = h10.1 ∧ zR r36 ∧ ((¬ r36 = 0 → (fx_V l M_RU_unpackRow (0, 0) Q 0 0 11 [some (.ref 14), some (.ref p), some (.int (zI x2)), some (.int (zI x3)), some (.int (zI (x4 + (r12 + 1)))), some (.int (zI (x5 + 1))), none, none] [] h34)) ∧ (r36 = 0 → Q (some (.int (zI 0))) h34)))) ∧ (¬ (r12 ≤ 128) → fx_Mt l M_RU_unpackRun (0, 0) [.ref 14, .ref p, .int (zI x2), .int (zI x4), .int (zI (r12 + 1)), .int (zI 1)] h10 (fun v h39 => ∃ r41 : Int, v = some (.int (zI r41)) ∧ h39.1 = h10.1 ∧ zR r41 ∧ ((¬ r41 = 0 → (fx_V l M_RU_unpackRow (0, 0) Q 0 0 11 [some (.ref 14), some (.ref p), some (.int (zI x2)), some (.int (zI x3)), some (.int (zI (x4 + (r12 + 1)))), some (.int (zI (x5 + 1))), none, none] [] h39)) ∧ (r41 = 0 → Q (some (.int (zI 0))) h39)))))))))))) ∧ (r12 = 128 → (fx_V l M_RU_unpackRow (0, 0) Q 0 0 11 [some (.ref 14), some (.ref p), some (.int (zI x2)), some (.int (zI x3)), some (.int (zI x4)), some (.int (zI (x5 + 1))), none, none] [] h10))))))))) :
    fx_V l M_RU_unpackRow (0, 0) Q 0 0 11 [some (.ref 14), some (.ref p), some (.int (zI x2)), some (.int (zI x3)), some (.int (zI x4)), some (.int (zI x5)), none, none] [] h := by
  refine fx_iload d_RU_unpackRow_11 rfl ?_
  refine fx_sipush (v := 2000) d_RU_unpackRow_13 rfl ?_
  obtain ⟨hz1, H⟩ := H
  refine fx_icmp_ge (t := 125) (n := 19) d_RU_unpackRow_16 hz1 (show zR 2000 by decide) (fun z2 => ?_) (fun z2 => ?_)
  · replace H := H.1 z2
    refine fx_iload d_RU_unpackRow_125 rfl ?_
    refine fx_iload_n (i := 3) d_RU_unpackRow_127 rfl rfl ?_
    obtain ⟨hz3, H⟩ := H
    obtain ⟨hz4, H⟩ := H
    refine fx_icmp_ne (t := 135) (n := 131) d_RU_unpackRow_128 hz3 hz4 (fun z5 => ?_) (fun z5 => ?_)
    · replace H := H.1 z5
      refine fx_iconst d_RU_unpackRow_135 ?_
      exact fx_end (some (.int (zI 0))) ⟨⟨_, rfl, rfl⟩, d_RU_unpackRow_136⟩ (Nat.le_refl _) (Nat.le_refl _) rfl H
    · replace H := H.2 z5
      refine fx_iconst d_RU_unpackRow_131 ?_
      refine fx_goto (n := 136) d_RU_unpackRow_132 ?_
      exact fx_end (some (.int (zI 1))) ⟨⟨_, rfl, rfl⟩, d_RU_unpackRow_136⟩ (Nat.le_refl _) (Nat.le_refl _) rfl H
  · replace H := H.2 z2
    refine fx_iload d_RU_unpackRow_19 rfl ?_
    refine fx_iload_n (i := 3) d_RU_unpackRow_21 rfl rfl ?_
    obtain ⟨hz6, H⟩ := H
    obtain ⟨hz7, H⟩ := H
    refine fx_icmp_ge (t := 125) (n := 25) d_RU_unpackRow_22 hz6 hz7 (fun z8 => ?_) (fun z8 => ?_)
    · replace H := H.1 z8
      refine fx_iload d_RU_unpackRow_125 rfl ?_
      refine fx_iload_n (i := 3) d_RU_unpackRow_127 rfl rfl ?_
      refine fx_icmp_ne (t := 135) (n := 131) d_RU_unpackRow_128 hz6 hz7 (fun z9 => ?_) (fun z9 => ?_)
      · replace H := H.1 z9
        refine fx_iconst d_RU_unpackRow_135 ?_
        exact fx_end (some (.int (zI 0))) ⟨⟨_, rfl, rfl⟩, d_RU_unpackRow_136⟩ (Nat.le_refl _) (Nat.le_refl _) rfl H
      · replace H := H.2 z9
        refine fx_iconst d_RU_unpackRow_131 ?_
        refine fx_goto (n := 136) d_RU_unpackRow_132 ?_
        exact fx_end (some (.int (zI 1))) ⟨⟨_, rfl, rfl⟩, d_RU_unpackRow_136⟩ (Nat.le_refl _) (Nat.le_refl _) rfl H
    · replace H := H.2 z8
      refine fx_aload_n (i := 0) d_RU_unpackRow_25 rfl rfl ?_
      refine fx_getR (q := 3) d_RU_unpackRow_26 lk_RU_15 (at_14 (h := _) hS) rfl rfl ?_
      refine fx_bipush (v := 8) d_RU_unpackRow_29 rfl ?_
      refine fx_callV (M' := M_BR_number) (B' := (0, 0)) (vs := [.int (zI 8)]) (rest := []) (c1 := 0) (s1 := 0) (n := 34) d_RU_unpackRow_31 ca_RU_unpackRow_63 (at_3 (h := _) hS) rfl rfl rfl ⟨by decide, by decide⟩ (Nat.le_of_ble_eq_true rfl) (Or.inl rfl) (fx_Mt.mono H fun v h10 hv => ?_)
      obtain ⟨r12, rfl, e11, H⟩ := hv
      have hS10 := e11.trans hS
      have hp10 : h10.1[p]? = some (hp_a, .inl (10, [some (p + 1), none, none, none])) := by rw [e11]; exact hp
      have hx10 : h10.1[(p + 1)]? = some (hx_a, .inr (0, 960)) := by rw [e11]; exact hx
      show fx_V l M_RU_unpackRow (0, 0) Q 0 0 34 [some (.ref 14), some (.ref p), some (.int (zI x2)), some (.int (zI x3)), some (.int (zI x4)), some (.int (zI x5)), none, none] [.int (zI r12)] h10
      refine fx_istore (ls2 := [some (.ref 14), some (.ref p), some (.int (zI x2)), some (.int (zI x3)), some (.int (zI x4)), some (.int (zI x5)), some (.int (zI r12)), none]) d_RU_unpackRow_34 (by decide) rfl ?_
      refine fx_iload d_RU_unpackRow_36 rfl ?_
      refine fx_sipush (v := 128) d_RU_unpackRow_38 rfl ?_
      obtain ⟨hz13, H⟩ := H
      refine fx_icmp_ne (t := 47) (n := 44) d_RU_unpackRow_41 hz13 (show zR 128 by decide) (fun z14 => ?_) (fun z14 => ?_)
      · replace H := H.1 z14
        refine fx_iload d_RU_unpackRow_47 rfl ?_
        refine fx_sipush (v := 128) d_RU_unpackRow_49 rfl ?_
        refine fx_icmp_ge (t := 62) (n := 55) d_RU_unpackRow_52 hz13 (show zR 128 by decide) (fun z15 => ?_) (fun z15 => ?_)
        · replace H := H.1 z15
          refine fx_sipush (v := 257) d_RU_unpackRow_62 rfl ?_
          refine fx_iload d_RU_unpackRow_65 rfl ?_
          refine fx_isub d_RU_unpackRow_67 ?_
          refine fx_istore (ls2 := [some (.ref 14), some (.ref p), some (.int (zI x2)), some (.int (zI x3)), some (.int (zI x4)), some (.int (zI x5)), some (.int (zI r12)), some (.int (zI (257 - r12)))]) d_RU_unpackRow_68 (by decide) rfl ?_
          refine fx_iload d_RU_unpackRow_70 rfl ?_
          refine fx_if_lt (t := 110) (n := 75) d_RU_unpackRow_72 hz13 (fun z16 => ?_) (fun z16 => ?_)
          · replace H := H.1 z16
            refine fx_iconst d_RU_unpackRow_110 ?_
            exact fx_end (some (.int (zI 0))) ⟨⟨_, rfl, rfl⟩, d_RU_unpackRow_111⟩ (Nat.le_refl _) (Nat.le_refl _) rfl H
          · replace H := H.2 z16
            refine fx_iload d_RU_unpackRow_75 rfl ?_
            refine fx_iload d_RU_unpackRow_77 rfl ?_
            refine fx_iadd d_RU_unpackRow_79 ?_
            refine fx_iload_n (i := 3) d_RU_unpackRow_80 rfl rfl ?_
            obtain ⟨hz17, H⟩ := H
            refine fx_icmp_gt (t := 110) (n := 84) d_RU_unpackRow_81 hz17 hz7 (fun z18 => ?_) (fun z18 => ?_)
            · replace H := H.1 z18
              refine fx_iconst d_RU_unpackRow_110 ?_
              exact fx_end (some (.int (zI 0))) ⟨⟨_, rfl, rfl⟩, d_RU_unpackRow_111⟩ (Nat.le_refl _) (Nat.le_refl _) rfl H
            · replace H := H.2 z18
              refine fx_aload_n (i := 0) d_RU_unpackRow_84 rfl rfl ?_
              refine fx_aload_n (i := 1) d_RU_unpackRow_85 rfl rfl ?_
              refine fx_iload_n (i := 2) d_RU_unpackRow_86 rfl rfl ?_
              refine fx_iload d_RU_unpackRow_87 rfl ?_
              refine fx_iload d_RU_unpackRow_89 rfl ?_
              refine fx_iload d_RU_unpackRow_91 rfl ?_
              refine fx_sipush (v := 128) d_RU_unpackRow_93 rfl ?_
              refine fx_icmp_le (t := 103) (n := 99) d_RU_unpackRow_96 hz13 (show zR 128 by decide) (fun z19 => ?_) (fun z19 => ?_)
              · replace H := H.1 z19
                refine fx_iconst d_RU_unpackRow_103 ?_
                refine fx_callV (M' := M_RU_unpackRun) (B' := (0, 0)) (vs := [.ref p, .int (zI x2), .int (zI x4), .int (zI (257 - r12)), .int (zI 0)]) (rest := []) (c1 := 0) (s1 := 0) (n := 107) d_RU_unpackRow_104 ca_RU_unpackRow_67 (at_14 (h := _) hS10) rfl rfl rfl ⟨by decide, by decide⟩ (Nat.le_of_ble_eq_true rfl) (Or.inl rfl) (fx_Mt.mono H fun v h20 hv => ?_)
                obtain ⟨r22, rfl, e21, H⟩ := hv
                have hS20 := e21.trans hS10
                have hp20 : h20.1[p]? = some (hp_a, .inl (10, [some (p + 1), none, none, none])) := by rw [e21]; exact hp10
                have hx20 : h20.1[(p + 1)]? = some (hx_a, .inr (0, 960)) := by rw [e21]; exact hx10
                show fx_V l M_RU_unpackRow (0, 0) Q 0 0 107 [some (.ref 14), some (.ref p), some (.int (zI x2)), some (.int (zI x3)), some (.int (zI x4)), some (.int (zI x5)), some (.int (zI r12)), some (.int (zI (257 - r12)))] [.int (zI r22)] h20
                obtain ⟨hz23, H⟩ := H
                refine fx_if_ne (t := 112) (n := 110) d_RU_unpackRow_107 hz23 (fun z24 => ?_) (fun z24 => ?_)
                · replace H := H.1 z24
                  refine fx_iload d_RU_unpackRow_112 rfl ?_
                  refine fx_iload d_RU_unpackRow_114 rfl ?_
                  refine fx_iadd d_RU_unpackRow_116 ?_
                  refine fx_istore (ls2 := [some (.ref 14), some (.ref p), some (.int (zI x2)), some (.int (zI x3)), some (.int (zI (x4 + (257 - r12)))), some (.int (zI x5)), some (.int (zI r12)), some (.int (zI (257 - r12)))]) d_RU_unpackRow_117 (by decide) rfl ?_
                  refine fx_iinc (v := x5 + 1) (ls2 := [some (.ref 14), some (.ref p), some (.int (zI x2)), some (.int (zI x3)), some (.int (zI (x4 + (257 - r12)))), some (.int (zI (x5 + 1))), some (.int (zI r12)), some (.int (zI (257 - r12)))]) d_RU_unpackRow_119 rfl rfl (by decide) rfl ?_
                  refine fx_goto (n := 11) d_RU_unpackRow_122 ?_
                  exact fx_fewer [some (.ref 14), some (.ref p), some (.int (zI x2)), some (.int (zI x3)), some (.int (zI (x4 + (257 - r12)))), some (.int (zI (x5 + 1))), none, none] ⟨rfl, rfl, rfl, rfl, rfl, rfl, trivial⟩ H
                · replace H := H.2 z24
                  refine fx_iconst d_RU_unpackRow_110 ?_
                  exact fx_end (some (.int (zI 0))) ⟨⟨_, rfl, rfl⟩, d_RU_unpackRow_111⟩ (Nat.le_refl _) (Nat.le_refl _) rfl H
              · replace H := H.2 z19
                refine fx_iconst d_RU_unpackRow_99 ?_
                refine fx_goto (n := 104) d_RU_unpackRow_100 ?_
                refine fx_callV (M' := M_RU_unpackRun) (B' := (0, 0)) (vs := [.ref p, .int (zI x2), .int (zI x4), .int (zI (257 - r12)), .int (zI 1)]) (rest := []) (c1 := 0) (s1 := 0) (n := 107) d_RU_unpackRow_104 ca_RU_unpackRow_67 (at_14 (h := _) hS10) rfl rfl rfl ⟨by decide, by decide⟩ (Nat.le_of_ble_eq_true rfl) (Or.inl rfl) (fx_Mt.mono H fun v h25 hv => ?_)
                obtain ⟨r27, rfl, e26, H⟩ := hv
                have hS25 := e26.trans hS10
                have hp25 : h25.1[p]? = some (hp_a, .inl (10, [some (p + 1), none, none, none])) := by rw [e26]; exact hp10
                have hx25 : h25.1[(p + 1)]? = some (hx_a, .inr (0, 960)) := by rw [e26]; exact hx10
                show fx_V l M_RU_unpackRow (0, 0) Q 0 0 107 [some (.ref 14), some (.ref p), some (.int (zI x2)), some (.int (zI x3)), some (.int (zI x4)), some (.int (zI x5)), some (.int (zI r12)), some (.int (zI (257 - r12)))] [.int (zI r27)] h25
                obtain ⟨hz28, H⟩ := H
                refine fx_if_ne (t := 112) (n := 110) d_RU_unpackRow_107 hz28 (fun z29 => ?_) (fun z29 => ?_)
                · replace H := H.1 z29
                  refine fx_iload d_RU_unpackRow_112 rfl ?_
                  refine fx_iload d_RU_unpackRow_114 rfl ?_
                  refine fx_iadd d_RU_unpackRow_116 ?_
                  refine fx_istore (ls2 := [some (.ref 14), some (.ref p), some (.int (zI x2)), some (.int (zI x3)), some (.int (zI (x4 + (257 - r12)))), some (.int (zI x5)), some (.int (zI r12)), some (.int (zI (257 - r12)))]) d_RU_unpackRow_117 (by decide) rfl ?_
                  refine fx_iinc (v := x5 + 1) (ls2 := [some (.ref 14), some (.ref p), some (.int (zI x2)), some (.int (zI x3)), some (.int (zI (x4 + (257 - r12)))), some (.int (zI (x5 + 1))), some (.int (zI r12)), some (.int (zI (257 - r12)))]) d_RU_unpackRow_119 rfl rfl (by decide) rfl ?_
                  refine fx_goto (n := 11) d_RU_unpackRow_122 ?_
                  exact fx_fewer [some (.ref 14), some (.ref p), some (.int (zI x2)), some (.int (zI x3)), some (.int (zI (x4 + (257 - r12)))), some (.int (zI (x5 + 1))), none, none] ⟨rfl, rfl, rfl, rfl, rfl, rfl, trivial⟩ H
                · replace H := H.2 z29
                  refine fx_iconst d_RU_unpackRow_110 ?_
                  exact fx_end (some (.int (zI 0))) ⟨⟨_, rfl, rfl⟩, d_RU_unpackRow_111⟩ (Nat.le_refl _) (Nat.le_refl _) rfl H
        · replace H := H.2 z15
          refine fx_iload d_RU_unpackRow_55 rfl ?_
          refine fx_iconst d_RU_unpackRow_57 ?_
          refine fx_iadd d_RU_unpackRow_58 ?_
          refine fx_goto (n := 68) d_RU_unpackRow_59 ?_
          refine fx_istore (ls2 := [some (.ref 14), some (.ref p), some (.int (zI x2)), some (.int (zI x3)), some (.int (zI x4)), some (.int (zI x5)), some (.int (zI r12)), some (.int (zI (r12 + 1)))]) d_RU_unpackRow_68 (by decide) rfl ?_
          refine fx_iload d_RU_unpackRow_70 rfl ?_
          refine fx_if_lt (t := 110) (n := 75) d_RU_unpackRow_72 hz13 (fun z30 => ?_) (fun z30 => ?_)
          · replace H := H.1 z30
            refine fx_iconst d_RU_unpackRow_110 ?_
            exact fx_end (some (.int (zI 0))) ⟨⟨_, rfl, rfl⟩, d_RU_unpackRow_111⟩ (Nat.le_refl _) (Nat.le_refl _) rfl H
          · replace H := H.2 z30
            refine fx_iload d_RU_unpackRow_75 rfl ?_
            refine fx_iload d_RU_unpackRow_77 rfl ?_
            refine fx_iadd d_RU_unpackRow_79 ?_
            refine fx_iload_n (i := 3) d_RU_unpackRow_80 rfl rfl ?_
            obtain ⟨hz31, H⟩ := H
            refine fx_icmp_gt (t := 110) (n := 84) d_RU_unpackRow_81 hz31 hz7 (fun z32 => ?_) (fun z32 => ?_)
            · replace H := H.1 z32
              refine fx_iconst d_RU_unpackRow_110 ?_
              exact fx_end (some (.int (zI 0))) ⟨⟨_, rfl, rfl⟩, d_RU_unpackRow_111⟩ (Nat.le_refl _) (Nat.le_refl _) rfl H
            · replace H := H.2 z32
              refine fx_aload_n (i := 0) d_RU_unpackRow_84 rfl rfl ?_
              refine fx_aload_n (i := 1) d_RU_unpackRow_85 rfl rfl ?_
              refine fx_iload_n (i := 2) d_RU_unpackRow_86 rfl rfl ?_
              refine fx_iload d_RU_unpackRow_87 rfl ?_
              refine fx_iload d_RU_unpackRow_89 rfl ?_
              refine fx_iload d_RU_unpackRow_91 rfl ?_
              refine fx_sipush (v := 128) d_RU_unpackRow_93 rfl ?_
              refine fx_icmp_le (t := 103) (n := 99) d_RU_unpackRow_96 hz13 (show zR 128 by decide) (fun z33 => ?_) (fun z33 => ?_)
              · replace H := H.1 z33
                refine fx_iconst d_RU_unpackRow_103 ?_
                refine fx_callV (M' := M_RU_unpackRun) (B' := (0, 0)) (vs := [.ref p, .int (zI x2), .int (zI x4), .int (zI (r12 + 1)), .int (zI 0)]) (rest := []) (c1 := 0) (s1 := 0) (n := 107) d_RU_unpackRow_104 ca_RU_unpackRow_67 (at_14 (h := _) hS10) rfl rfl rfl ⟨by decide, by decide⟩ (Nat.le_of_ble_eq_true rfl) (Or.inl rfl) (fx_Mt.mono H fun v h34 hv => ?_)
                obtain ⟨r36, rfl, e35, H⟩ := hv
                have hS34 := e35.trans hS10
                have hp34 : h34.1[p]? = some (hp_a, .inl (10, [some (p + 1), none, none, none])) := by rw [e35]; exact hp10
                have hx34 : h34.1[(p + 1)]? = some (hx_a, .inr (0, 960)) := by rw [e35]; exact hx10
                show fx_V l M_RU_unpackRow (0, 0) Q 0 0 107 [some (.ref 14), some (.ref p), some (.int (zI x2)), some (.int (zI x3)), some (.int (zI x4)), some (.int (zI x5)), some (.int (zI r12)), some (.int (zI (r12 + 1)))] [.int (zI r36)] h34
                obtain ⟨hz37, H⟩ := H
                refine fx_if_ne (t := 112) (n := 110) d_RU_unpackRow_107 hz37 (fun z38 => ?_) (fun z38 => ?_)
                · replace H := H.1 z38
                  refine fx_iload d_RU_unpackRow_112 rfl ?_
                  refine fx_iload d_RU_unpackRow_114 rfl ?_
                  refine fx_iadd d_RU_unpackRow_116 ?_
                  refine fx_istore (ls2 := [some (.ref 14), some (.ref p), some (.int (zI x2)), some (.int (zI x3)), some (.int (zI (x4 + (r12 + 1)))), some (.int (zI x5)), some (.int (zI r12)), some (.int (zI (r12 + 1)))]) d_RU_unpackRow_117 (by decide) rfl ?_
                  refine fx_iinc (v := x5 + 1) (ls2 := [some (.ref 14), some (.ref p), some (.int (zI x2)), some (.int (zI x3)), some (.int (zI (x4 + (r12 + 1)))), some (.int (zI (x5 + 1))), some (.int (zI r12)), some (.int (zI (r12 + 1)))]) d_RU_unpackRow_119 rfl rfl (by decide) rfl ?_
                  refine fx_goto (n := 11) d_RU_unpackRow_122 ?_
                  exact fx_fewer [some (.ref 14), some (.ref p), some (.int (zI x2)), some (.int (zI x3)), some (.int (zI (x4 + (r12 + 1)))), some (.int (zI (x5 + 1))), none, none] ⟨rfl, rfl, rfl, rfl, rfl, rfl, trivial⟩ H
                · replace H := H.2 z38
                  refine fx_iconst d_RU_unpackRow_110 ?_
                  exact fx_end (some (.int (zI 0))) ⟨⟨_, rfl, rfl⟩, d_RU_unpackRow_111⟩ (Nat.le_refl _) (Nat.le_refl _) rfl H
              · replace H := H.2 z33
                refine fx_iconst d_RU_unpackRow_99 ?_
                refine fx_goto (n := 104) d_RU_unpackRow_100 ?_
                refine fx_callV (M' := M_RU_unpackRun) (B' := (0, 0)) (vs := [.ref p, .int (zI x2), .int (zI x4), .int (zI (r12 + 1)), .int (zI 1)]) (rest := []) (c1 := 0) (s1 := 0) (n := 107) d_RU_unpackRow_104 ca_RU_unpackRow_67 (at_14 (h := _) hS10) rfl rfl rfl ⟨by decide, by decide⟩ (Nat.le_of_ble_eq_true rfl) (Or.inl rfl) (fx_Mt.mono H fun v h39 hv => ?_)
                obtain ⟨r41, rfl, e40, H⟩ := hv
                have hS39 := e40.trans hS10
                have hp39 : h39.1[p]? = some (hp_a, .inl (10, [some (p + 1), none, none, none])) := by rw [e40]; exact hp10
                have hx39 : h39.1[(p + 1)]? = some (hx_a, .inr (0, 960)) := by rw [e40]; exact hx10
                show fx_V l M_RU_unpackRow (0, 0) Q 0 0 107 [some (.ref 14), some (.ref p), some (.int (zI x2)), some (.int (zI x3)), some (.int (zI x4)), some (.int (zI x5)), some (.int (zI r12)), some (.int (zI (r12 + 1)))] [.int (zI r41)] h39
                obtain ⟨hz42, H⟩ := H
                refine fx_if_ne (t := 112) (n := 110) d_RU_unpackRow_107 hz42 (fun z43 => ?_) (fun z43 => ?_)
                · replace H := H.1 z43
                  refine fx_iload d_RU_unpackRow_112 rfl ?_
                  refine fx_iload d_RU_unpackRow_114 rfl ?_
                  refine fx_iadd d_RU_unpackRow_116 ?_
                  refine fx_istore (ls2 := [some (.ref 14), some (.ref p), some (.int (zI x2)), some (.int (zI x3)), some (.int (zI (x4 + (r12 + 1)))), some (.int (zI x5)), some (.int (zI r12)), some (.int (zI (r12 + 1)))]) d_RU_unpackRow_117 (by decide) rfl ?_
                  refine fx_iinc (v := x5 + 1) (ls2 := [some (.ref 14), some (.ref p), some (.int (zI x2)), some (.int (zI x3)), some (.int (zI (x4 + (r12 + 1)))), some (.int (zI (x5 + 1))), some (.int (zI r12)), some (.int (zI (r12 + 1)))]) d_RU_unpackRow_119 rfl rfl (by decide) rfl ?_
                  refine fx_goto (n := 11) d_RU_unpackRow_122 ?_
                  exact fx_fewer [some (.ref 14), some (.ref p), some (.int (zI x2)), some (.int (zI x3)), some (.int (zI (x4 + (r12 + 1)))), some (.int (zI (x5 + 1))), none, none] ⟨rfl, rfl, rfl, rfl, rfl, rfl, trivial⟩ H
                · replace H := H.2 z43
                  refine fx_iconst d_RU_unpackRow_110 ?_
                  exact fx_end (some (.int (zI 0))) ⟨⟨_, rfl, rfl⟩, d_RU_unpackRow_111⟩ (Nat.le_refl _) (Nat.le_refl _) rfl H
      · replace H := H.2 z14
        refine fx_goto (n := 119) d_RU_unpackRow_44 ?_
        refine fx_iinc (v := x5 + 1) (ls2 := [some (.ref 14), some (.ref p), some (.int (zI x2)), some (.int (zI x3)), some (.int (zI x4)), some (.int (zI (x5 + 1))), some (.int (zI r12)), none]) d_RU_unpackRow_119 rfl rfl (by decide) rfl ?_
        refine fx_goto (n := 11) d_RU_unpackRow_122 ?_
        exact fx_fewer [some (.ref 14), some (.ref p), some (.int (zI x2)), some (.int (zI x3)), some (.int (zI x4)), some (.int (zI (x5 + 1))), none, none] ⟨rfl, rfl, rfl, rfl, rfl, rfl, trivial⟩ H

set_option maxRecDepth 100000 in
set_option maxHeartbeats 4000000 in
theorem e_RU_unpackRun {l : Launch} {Q : Option Value → fx_H → Prop} {h : fx_H} {p : Nat} {y : Int} {x : Int} {n : Int} {s : Int} {hp_a : Nat} {hx_a : Nat} {a : Nat → Nat} {pp dd : Nat} (hS : h.1 = fx_S0 a pp dd) (hp : h.1[p]? = some (hp_a, .inl (10, [some (p + 1), none, none, none]))) (hx : h.1[(p + 1)]? = some (hx_a, .inr (0, 960)))
    (H : (fx_V l M_RU_unpackRun (0, 0) Q 0 0 6 [some (.ref 14), some (.ref p), some (.int (zI y)), some (.int (zI x)), some (.int (zI n)), some (.int (zI s)), some (.int (zI 0)), some (.int (zI 0))] [] h)) :
    fx_Mt l M_RU_unpackRun (0, 0) [.ref 14, .ref p, .int (zI y), .int (zI x), .int (zI n), .int (zI s)] h Q := by
  refine fx_entry (ls := [some (.ref 14), some (.ref p), some (.int (zI y)), some (.int (zI x)), some (.int (zI n)), some (.int (zI s)), none, none]) (by decide) (Nat.le_of_ble_eq_true rfl) rfl ?_
  refine fx_iconst d_RU_unpackRun_0 ?_
  refine fx_istore (ls2 := [some (.ref 14), some (.ref p), some (.int (zI y)), some (.int (zI x)), some (.int (zI n)), some (.int (zI s)), some (.int (zI 0)), none]) d_RU_unpackRun_1 (by decide) rfl ?_
  refine fx_iconst d_RU_unpackRun_3 ?_
  refine fx_istore (ls2 := [some (.ref 14), some (.ref p), some (.int (zI y)), some (.int (zI x)), some (.int (zI n)), some (.int (zI s)), some (.int (zI 0)), some (.int (zI 0))]) d_RU_unpackRun_4 (by decide) rfl ?_
  exact H

set_option maxRecDepth 100000 in
set_option maxHeartbeats 4000000 in
theorem w_RU_unpackRun_6 {l : Launch} {Q : Option Value → fx_H → Prop} {h : fx_H} {p : Nat} {x2 : Int} {x3 : Int} {x4 : Int} {x5 : Int} {x6 : Int} {x7 : Int} {hp_a : Nat} {hx_a : Nat} {a : Nat → Nat} {pp dd : Nat} (hS : h.1 = fx_S0 a pp dd) (hp : h.1[p]? = some (hp_a, .inl (10, [some (p + 1), none, none, none]))) (hx : h.1[(p + 1)]? = some (hx_a, .inr (0, 960)))
    (H : zR x7 ∧ zR x4 ∧ ((x4 ≤ x7 → Q (some (.int (zI 1))) h) ∧ (¬ (x4 ≤ x7) → ((x7 = 0 → fx_Mt l M_BR_number (0, 0) [.ref 3, .int (zI 8)] h (fun v h5 => ∃ r7 : Int, v = some (.int (zI r7)) ∧ h5.1 = h.1 ∧ zR r7 ∧ ((r7 < 0 → Q (some (.int (zI 0))) h5) ∧ (¬ (r7 < 0) → fx_Mt l M_PI_paintRowByte (0, 0) [.ref p, .int (zI x2), .int (zI (x3 + x7)), .int (zI r7)] h5 (fun v h10 => ∃ r12 : Int, v = some (.int (zI r12)) ∧ h10.1 = h5.1 ∧ zR r12 ∧ ((¬ r12 = 0 → (fx_V l M_RU_unpackRun (0, 0) Q 0 0 6 [some (.ref 14), some (.ref p), some (.int (zI x2)), some (.int (zI x3)), some (.int (zI x4)), some (.int (zI x5)), some (.int (zI r7)), some (.int (zI (x7 + 1)))] [] h10)) ∧ (r12 = 0 → Q (some (.int (zI 0))) h10))))))) ∧ (¬ (x7 = 0) → zR x5 ∧ ((¬ x5 = 0 → zR x6 ∧ ((x6 < 0 → Q (some (.int (zI 0))) h) ∧ (¬ (x6 < 0) → fx_Mt l M_PI_paintRowByte (0, 0) [.ref p, .int (zI x2), .int (zI (x3 + x7)), .int (zI x6)] h (fun v h19 => ∃ r21 : Int, v = some (.int (zI r21)) ∧ h19.1 = h.1 ∧ zR r21 ∧ ((¬ r21 = 0 → (fx_V l M_RU_unpackRun (0, 0) Q 0 0 6 [some (.ref 14), some (.ref p), some (.int (zI x2)), some (.int (zI x3)), some (.int (zI x4)), some (.int (zI x5)), some (.int (zI x6)), some (.int (zI (x7 + 1)))] [] h19)) ∧ (r21 = 0 → Q (some (.int (zI 0))) h19)))))) ∧ (x5 = 0 → fx_Mt l M_BR_number (0, 0) [.ref 3, .int (zI 8)] h (fun v h24 => ∃ r26 : Int, v = some (.int (zI r26)) ∧ h24.1 = h.1 ∧ zR r26 ∧ ((r26 < 0 → Q (some (.int (zI 0))) h24) ∧ (¬ (r26 < 0) → fx_Mt l M_PI_paintRowByte (0, 0) [.ref p, .int (zI x2), .int (zI (x3 + x7)), .int (zI r26)] h24 (fun v h29 => ∃ r31 : Int, v = some (.int (zI r31)) ∧ h29.1 = h24.1 ∧ zR r31 ∧ ((¬ r31 = 0 → (fx_V l M_RU_unpackRun (0, 0) Q 0 0 6 [some (.ref 14), some (.ref p), some (.int (zI x2)), some (.int (zI x3)), some (.int (zI x4)), some (.int (zI x5)), some (.int (zI r26)), some (.int (zI (x7 + 1)))] [] h29)) ∧ (r31 = 0 → Q (some (.int (zI 0))) h29))))))))))))) :
    fx_V l M_RU_unpackRun (0, 0) Q 0 0 6 [some (.ref 14), some (.ref p), some (.int (zI x2)), some (.int (zI x3)), some (.int (zI x4)), some (.int (zI x5)), some (.int (zI x6)), some (.int (zI x7))] [] h := by
  refine fx_iload d_RU_unpackRun_6 rfl ?_
  refine fx_iload d_RU_unpackRun_8 rfl ?_
  obtain ⟨hz1, H⟩ := H
  obtain ⟨hz2, H⟩ := H
  refine fx_icmp_ge (t := 61) (n := 13) d_RU_unpackRun_10 hz1 hz2 (fun z3 => ?_) (fun z3 => ?_)
  · replace H := H.1 z3
    refine fx_iconst d_RU_unpackRun_61 ?_
    exact fx_end (some (.int (zI 1))) ⟨⟨_, rfl, rfl⟩, d_RU_unpackRun_62⟩ (Nat.le_refl _) (Nat.le_refl _) rfl H
  · replace H := H.2 z3
    refine fx_iload d_RU_unpackRun_13 rfl ?_
    refine fx_if_eq (t := 23) (n := 18) d_RU_unpackRun_15 hz1 (fun z4 => ?_) (fun z4 => ?_)
    · replace H := H.1 z4
      refine fx_aload_n (i := 0) d_RU_unpackRun_23 rfl rfl ?_
      refine fx_getR (q := 3) d_RU_unpackRun_24 lk_RU_15 (at_14 (h := _) hS) rfl rfl ?_
      refine fx_bipush (v := 8) d_RU_unpackRun_27 rfl ?_
      refine fx_callV (M' := M_BR_number) (B' := (0, 0)) (vs := [.int (zI 8)]) (rest := []) (c1 := 0) (s1 := 0) (n := 32) d_RU_unpackRun_29 ca_RU_unpackRun_63 (at_3 (h := _) hS) rfl rfl rfl ⟨by decide, by decide⟩ (Nat.le_of_ble_eq_true rfl) (Or.inl rfl) (fx_Mt.mono H fun v h5 hv => ?_)
      obtain ⟨r7, rfl, e6, H⟩ := hv
      have hS5 := e6.trans hS
      have hp5 : h5.1[p]? = some (hp_a, .inl (10, [some (p + 1), none, none, none])) := by rw [e6]; exact hp
      have hx5 : h5.1[(p + 1)]? = some (hx_a, .inr (0, 960)) := by rw [e6]; exact hx
      show fx_V l M_RU_unpackRun (0, 0) Q 0 0 32 [some (.ref 14), some (.ref p), some (.int (zI x2)), some (.int (zI x3)), some (.int (zI x4)), some (.int (zI x5)), some (.int (zI x6)), some (.int (zI x7))] [.int (zI r7)] h5
      refine fx_istore (ls2 := [some (.ref 14), some (.ref p), some (.int (zI x2)), some (.int (zI x3)), some (.int (zI x4)), some (.int (zI x5)), some (.int (zI r7)), some (.int (zI x7))]) d_RU_unpackRun_32 (by decide) rfl ?_
      refine fx_iload d_RU_unpackRun_34 rfl ?_
      obtain ⟨hz8, H⟩ := H
      refine fx_if_lt (t := 53) (n := 39) d_RU_unpackRun_36 hz8 (fun z9 => ?_) (fun z9 => ?_)
      · replace H := H.1 z9
        refine fx_iconst d_RU_unpackRun_53 ?_
        exact fx_end (some (.int (zI 0))) ⟨⟨_, rfl, rfl⟩, d_RU_unpackRun_54⟩ (Nat.le_refl _) (Nat.le_refl _) rfl H
      · replace H := H.2 z9
        refine fx_aload_n (i := 1) d_RU_unpackRun_39 rfl rfl ?_
        refine fx_iload_n (i := 2) d_RU_unpackRun_40 rfl rfl ?_
        refine fx_iload_n (i := 3) d_RU_unpackRun_41 rfl rfl ?_
        refine fx_iload d_RU_unpackRun_42 rfl ?_
        refine fx_iadd d_RU_unpackRun_44 ?_
        refine fx_iload d_RU_unpackRun_45 rfl ?_
        refine fx_callV (M' := M_PI_paintRowByte) (B' := (0, 0)) (vs := [.int (zI x2), .int (zI (x3 + x7)), .int (zI r7)]) (rest := []) (c1 := 0) (s1 := 0) (n := 50) d_RU_unpackRun_47 ca_RU_unpackRun_71 hp5 rfl rfl rfl ⟨by decide, by decide⟩ (Nat.le_of_ble_eq_true rfl) (Or.inl rfl) (fx_Mt.mono H fun v h10 hv => ?_)
        obtain ⟨r12, rfl, e11, H⟩ := hv
        have hS10 := e11.trans hS5
        have hp10 : h10.1[p]? = some (hp_a, .inl (10, [some (p + 1), none, none, none])) := by rw [e11]; exact hp5
        have hx10 : h10.1[(p + 1)]? = some (hx_a, .inr (0, 960)) := by rw [e11]; exact hx5
        show fx_V l M_RU_unpackRun (0, 0) Q 0 0 50 [some (.ref 14), some (.ref p), some (.int (zI x2)), some (.int (zI x3)), some (.int (zI x4)), some (.int (zI x5)), some (.int (zI r7)), some (.int (zI x7))] [.int (zI r12)] h10
        obtain ⟨hz13, H⟩ := H
        refine fx_if_ne (t := 55) (n := 53) d_RU_unpackRun_50 hz13 (fun z14 => ?_) (fun z14 => ?_)
        · replace H := H.1 z14
          refine fx_iinc (v := x7 + 1) (ls2 := [some (.ref 14), some (.ref p), some (.int (zI x2)), some (.int (zI x3)), some (.int (zI x4)), some (.int (zI x5)), some (.int (zI r7)), some (.int (zI (x7 + 1)))]) d_RU_unpackRun_55 rfl rfl (by decide) rfl ?_
          refine fx_goto (n := 6) d_RU_unpackRun_58 ?_
          exact H
        · replace H := H.2 z14
          refine fx_iconst d_RU_unpackRun_53 ?_
          exact fx_end (some (.int (zI 0))) ⟨⟨_, rfl, rfl⟩, d_RU_unpackRun_54⟩ (Nat.le_refl _) (Nat.le_refl _) rfl H
    · replace H := H.2 z4
      refine fx_iload d_RU_unpackRun_18 rfl ?_
      obtain ⟨hz15, H⟩ := H
      refine fx_if_ne (t := 34) (n := 23) d_RU_unpackRun_20 hz15 (fun z16 => ?_) (fun z16 => ?_)
      · replace H := H.1 z16
        refine fx_iload d_RU_unpackRun_34 rfl ?_
        obtain ⟨hz17, H⟩ := H
        refine fx_if_lt (t := 53) (n := 39) d_RU_unpackRun_36 hz17 (fun z18 => ?_) (fun z18 => ?_)
        · replace H := H.1 z18
          refine fx_iconst d_RU_unpackRun_53 ?_
          exact fx_end (some (.int (zI 0))) ⟨⟨_, rfl, rfl⟩, d_RU_unpackRun_54⟩ (Nat.le_refl _) (Nat.le_refl _) rfl H
        · replace H := H.2 z18
          refine fx_aload_n (i := 1) d_RU_unpackRun_39 rfl rfl ?_
          refine fx_iload_n (i := 2) d_RU_unpackRun_40 rfl rfl ?_
          refine fx_iload_n (i := 3) d_RU_unpackRun_41 rfl rfl ?_
          refine fx_iload d_RU_unpackRun_42 rfl ?_
          refine fx_iadd d_RU_unpackRun_44 ?_
          refine fx_iload d_RU_unpackRun_45 rfl ?_
          refine fx_callV (M' := M_PI_paintRowByte) (B' := (0, 0)) (vs := [.int (zI x2), .int (zI (x3 + x7)), .int (zI x6)]) (rest := []) (c1 := 0) (s1 := 0) (n := 50) d_RU_unpackRun_47 ca_RU_unpackRun_71 hp rfl rfl rfl ⟨by decide, by decide⟩ (Nat.le_of_ble_eq_true rfl) (Or.inl rfl) (fx_Mt.mono H fun v h19 hv => ?_)
          obtain ⟨r21, rfl, e20, H⟩ := hv
          have hS19 := e20.trans hS
          have hp19 : h19.1[p]? = some (hp_a, .inl (10, [some (p + 1), none, none, none])) := by rw [e20]; exact hp
          have hx19 : h19.1[(p + 1)]? = some (hx_a, .inr (0, 960)) := by rw [e20]; exact hx
          show fx_V l M_RU_unpackRun (0, 0) Q 0 0 50 [some (.ref 14), some (.ref p), some (.int (zI x2)), some (.int (zI x3)), some (.int (zI x4)), some (.int (zI x5)), some (.int (zI x6)), some (.int (zI x7))] [.int (zI r21)] h19
          obtain ⟨hz22, H⟩ := H
          refine fx_if_ne (t := 55) (n := 53) d_RU_unpackRun_50 hz22 (fun z23 => ?_) (fun z23 => ?_)
          · replace H := H.1 z23
            refine fx_iinc (v := x7 + 1) (ls2 := [some (.ref 14), some (.ref p), some (.int (zI x2)), some (.int (zI x3)), some (.int (zI x4)), some (.int (zI x5)), some (.int (zI x6)), some (.int (zI (x7 + 1)))]) d_RU_unpackRun_55 rfl rfl (by decide) rfl ?_
            refine fx_goto (n := 6) d_RU_unpackRun_58 ?_
            exact H
          · replace H := H.2 z23
            refine fx_iconst d_RU_unpackRun_53 ?_
            exact fx_end (some (.int (zI 0))) ⟨⟨_, rfl, rfl⟩, d_RU_unpackRun_54⟩ (Nat.le_refl _) (Nat.le_refl _) rfl H
      · replace H := H.2 z16
        refine fx_aload_n (i := 0) d_RU_unpackRun_23 rfl rfl ?_
        refine fx_getR (q := 3) d_RU_unpackRun_24 lk_RU_15 (at_14 (h := _) hS) rfl rfl ?_
        refine fx_bipush (v := 8) d_RU_unpackRun_27 rfl ?_
        refine fx_callV (M' := M_BR_number) (B' := (0, 0)) (vs := [.int (zI 8)]) (rest := []) (c1 := 0) (s1 := 0) (n := 32) d_RU_unpackRun_29 ca_RU_unpackRun_63 (at_3 (h := _) hS) rfl rfl rfl ⟨by decide, by decide⟩ (Nat.le_of_ble_eq_true rfl) (Or.inl rfl) (fx_Mt.mono H fun v h24 hv => ?_)
        obtain ⟨r26, rfl, e25, H⟩ := hv
        have hS24 := e25.trans hS
        have hp24 : h24.1[p]? = some (hp_a, .inl (10, [some (p + 1), none, none, none])) := by rw [e25]; exact hp
        have hx24 : h24.1[(p + 1)]? = some (hx_a, .inr (0, 960)) := by rw [e25]; exact hx
        show fx_V l M_RU_unpackRun (0, 0) Q 0 0 32 [some (.ref 14), some (.ref p), some (.int (zI x2)), some (.int (zI x3)), some (.int (zI x4)), some (.int (zI x5)), some (.int (zI x6)), some (.int (zI x7))] [.int (zI r26)] h24
        refine fx_istore (ls2 := [some (.ref 14), some (.ref p), some (.int (zI x2)), some (.int (zI x3)), some (.int (zI x4)), some (.int (zI x5)), some (.int (zI r26)), some (.int (zI x7))]) d_RU_unpackRun_32 (by decide) rfl ?_
        refine fx_iload d_RU_unpackRun_34 rfl ?_
        obtain ⟨hz27, H⟩ := H
        refine fx_if_lt (t := 53) (n := 39) d_RU_unpackRun_36 hz27 (fun z28 => ?_) (fun z28 => ?_)
        · replace H := H.1 z28
          refine fx_iconst d_RU_unpackRun_53 ?_
          exact fx_end (some (.int (zI 0))) ⟨⟨_, rfl, rfl⟩, d_RU_unpackRun_54⟩ (Nat.le_refl _) (Nat.le_refl _) rfl H
        · replace H := H.2 z28
          refine fx_aload_n (i := 1) d_RU_unpackRun_39 rfl rfl ?_
          refine fx_iload_n (i := 2) d_RU_unpackRun_40 rfl rfl ?_
          refine fx_iload_n (i := 3) d_RU_unpackRun_41 rfl rfl ?_
          refine fx_iload d_RU_unpackRun_42 rfl ?_
          refine fx_iadd d_RU_unpackRun_44 ?_
          refine fx_iload d_RU_unpackRun_45 rfl ?_
          refine fx_callV (M' := M_PI_paintRowByte) (B' := (0, 0)) (vs := [.int (zI x2), .int (zI (x3 + x7)), .int (zI r26)]) (rest := []) (c1 := 0) (s1 := 0) (n := 50) d_RU_unpackRun_47 ca_RU_unpackRun_71 hp24 rfl rfl rfl ⟨by decide, by decide⟩ (Nat.le_of_ble_eq_true rfl) (Or.inl rfl) (fx_Mt.mono H fun v h29 hv => ?_)
          obtain ⟨r31, rfl, e30, H⟩ := hv
          have hS29 := e30.trans hS24
          have hp29 : h29.1[p]? = some (hp_a, .inl (10, [some (p + 1), none, none, none])) := by rw [e30]; exact hp24
          have hx29 : h29.1[(p + 1)]? = some (hx_a, .inr (0, 960)) := by rw [e30]; exact hx24
          show fx_V l M_RU_unpackRun (0, 0) Q 0 0 50 [some (.ref 14), some (.ref p), some (.int (zI x2)), some (.int (zI x3)), some (.int (zI x4)), some (.int (zI x5)), some (.int (zI r26)), some (.int (zI x7))] [.int (zI r31)] h29
          obtain ⟨hz32, H⟩ := H
          refine fx_if_ne (t := 55) (n := 53) d_RU_unpackRun_50 hz32 (fun z33 => ?_) (fun z33 => ?_)
          · replace H := H.1 z33
            refine fx_iinc (v := x7 + 1) (ls2 := [some (.ref 14), some (.ref p), some (.int (zI x2)), some (.int (zI x3)), some (.int (zI x4)), some (.int (zI x5)), some (.int (zI r26)), some (.int (zI (x7 + 1)))]) d_RU_unpackRun_55 rfl rfl (by decide) rfl ?_
            refine fx_goto (n := 6) d_RU_unpackRun_58 ?_
            exact H
          · replace H := H.2 z33
            refine fx_iconst d_RU_unpackRun_53 ?_
            exact fx_end (some (.int (zI 0))) ⟨⟨_, rfl, rfl⟩, d_RU_unpackRun_54⟩ (Nat.le_refl _) (Nat.le_refl _) rfl H

