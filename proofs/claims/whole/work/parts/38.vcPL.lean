/-! what is owed of the numbers, by program (wip/printvc.py) -/
set_option maxRecDepth 100000 in
set_option maxHeartbeats 4000000 in
theorem e_PL_pack {l : Launch} {Q : Option Value → fx_H → Prop} {h : fx_H} {p : Nat} {x : Int} {y : Int} {hp_a : Nat} {hx_a : Nat} {a : Nat → Nat} {pp dd : Nat} (hS : h.1 = fx_S0 a pp dd) (hp : h.1[p]? = some (hp_a, .inl (10, [some (p + 1), none, none, none]))) (hx : h.1[(p + 1)]? = some (hx_a, .inr (0, 960)))
    (H : fx_Mt l M_PI_rowBytes (0, 0) [.ref p] h (fun v h1 => ∃ r3 : Int, v = some (.int (zI r3)) ∧ h1.1 = h.1 ∧ (fx_V l M_PL_pack (0, 0) Q 0 0 9 [some (.ref 13), some (.ref p), none, some (.int (zI y)), some (.int (zI r3)), some (.int (zI x)), none] [] h1))) :
    fx_Mt l M_PL_pack (0, 0) [.ref 13, .ref p, .int (zI x), .int (zI y)] h Q := by
  refine fx_entry (ls := [some (.ref 13), some (.ref p), some (.int (zI x)), some (.int (zI y)), none, none, none]) (by decide) (Nat.le_of_ble_eq_true rfl) rfl ?_
  refine fx_aload_n (i := 1) d_PL_pack_0 rfl rfl ?_
  refine fx_callV (M' := M_PI_rowBytes) (B' := (0, 0)) (vs := []) (rest := []) (c1 := 0) (s1 := 0) (n := 4) d_PL_pack_1 ca_PL_pack_17 hp rfl rfl rfl ⟨by decide, by decide⟩ (Nat.le_of_ble_eq_true rfl) (Or.inl rfl) (fx_Mt.mono H fun v h1 hv => ?_)
  obtain ⟨r3, rfl, e2, H⟩ := hv
  have hS1 := e2.trans hS
  have hp1 : h1.1[p]? = some (hp_a, .inl (10, [some (p + 1), none, none, none])) := by rw [e2]; exact hp
  have hx1 : h1.1[(p + 1)]? = some (hx_a, .inr (0, 960)) := by rw [e2]; exact hx
  show fx_V l M_PL_pack (0, 0) Q 0 0 4 [some (.ref 13), some (.ref p), some (.int (zI x)), some (.int (zI y)), none, none, none] [.int (zI r3)] h1
  refine fx_istore (ls2 := [some (.ref 13), some (.ref p), some (.int (zI x)), some (.int (zI y)), some (.int (zI r3)), none, none]) d_PL_pack_4 (by decide) rfl ?_
  refine fx_iload_n (i := 2) d_PL_pack_6 rfl rfl ?_
  refine fx_istore (ls2 := [some (.ref 13), some (.ref p), some (.int (zI x)), some (.int (zI y)), some (.int (zI r3)), some (.int (zI x)), none]) d_PL_pack_7 (by decide) rfl ?_
  exact fx_fewer [some (.ref 13), some (.ref p), none, some (.int (zI y)), some (.int (zI r3)), some (.int (zI x)), none] ⟨rfl, rfl, rfl, rfl, rfl, trivial⟩ H

set_option maxRecDepth 100000 in
set_option maxHeartbeats 4000000 in
theorem w_PL_pack_9 {l : Launch} {Q : Option Value → fx_H → Prop} {h : fx_H} {p : Nat} {x3 : Int} {x4 : Int} {x5 : Int} {hp_a : Nat} {hx_a : Nat} {a : Nat → Nat} {pp dd : Nat} (hS : h.1 = fx_S0 a pp dd) (hp : h.1[p]? = some (hp_a, .inl (10, [some (p + 1), none, none, none]))) (hx : h.1[(p + 1)]? = some (hx_a, .inr (0, 960)))
    (H : zR x5 ∧ zR x3 ∧ ((x3 ≤ x5 → Q none h) ∧ (¬ (x3 ≤ x5) → (fx_V l M_PL_pack (0, 0) Q 0 0 18 [some (.ref 13), some (.ref p), none, some (.int (zI x3)), some (.int (zI x4)), some (.int (zI x5)), some (.int (zI 0))] [] h)))) :
    fx_V l M_PL_pack (0, 0) Q 0 0 9 [some (.ref 13), some (.ref p), none, some (.int (zI x3)), some (.int (zI x4)), some (.int (zI x5)), none] [] h := by
  refine fx_iload d_PL_pack_9 rfl ?_
  refine fx_iload_n (i := 3) d_PL_pack_11 rfl rfl ?_
  obtain ⟨hz1, H⟩ := H
  obtain ⟨hz2, H⟩ := H
  refine fx_icmp_ge (t := 52) (n := 15) d_PL_pack_12 hz1 hz2 (fun z3 => ?_) (fun z3 => ?_)
  · replace H := H.1 z3
    exact fx_end none ⟨rfl, d_PL_pack_52⟩ (Nat.le_refl _) (Nat.le_refl _) rfl H
  · replace H := H.2 z3
    refine fx_iconst d_PL_pack_15 ?_
    refine fx_istore (ls2 := [some (.ref 13), some (.ref p), none, some (.int (zI x3)), some (.int (zI x4)), some (.int (zI x5)), some (.int (zI 0))]) d_PL_pack_16 (by decide) rfl ?_
    exact H

set_option maxRecDepth 100000 in
set_option maxHeartbeats 4000000 in
theorem w_PL_pack_18 {l : Launch} {Q : Option Value → fx_H → Prop} {h : fx_H} {p : Nat} {x3 : Int} {x4 : Int} {x5 : Int} {x6 : Int} {hp_a : Nat} {hx_a : Nat} {a : Nat → Nat} {pp dd : Nat} (hS : h.1 = fx_S0 a pp dd) (hp : h.1[p]? = some (hp_a, .inl (10, [some (p + 1), none, none, none]))) (hx : h.1[(p + 1)]? = some (hx_a, .inr (0, 960)))
    (H : zR x6 ∧ zR x4 ∧ ((x4 ≤ x6 → (fx_V l M_PL_pack (0, 0) Q 0 0 9 [some (.ref 13), some (.ref p), none, some (.int (zI x3)), some (.int (zI x4)), some (.int (zI (x5 + 1))), none] [] h)) ∧ (¬ (x4 ≤ x6) → fx_Mt l M_PI_rowByte (0, 0) [.ref p, .int (zI x5), .int (zI x6)] h (fun v h4 => ∃ r6 : Int, v = some (.int (zI r6)) ∧ h4.1 = h.1 ∧ fx_Mt l M_BY_append (0, 0) [.ref 1, .int (zI r6)] h4 (fun v h7 => v = none ∧ h7.1 = h4.1 ∧ (fx_V l M_PL_pack (0, 0) Q 0 0 18 [some (.ref 13), some (.ref p), none, some (.int (zI x3)), some (.int (zI x4)), some (.int (zI x5)), some (.int (zI (x6 + 1)))] [] h7)))))) :
    fx_V l M_PL_pack (0, 0) Q 0 0 18 [some (.ref 13), some (.ref p), none, some (.int (zI x3)), some (.int (zI x4)), some (.int (zI x5)), some (.int (zI x6))] [] h := by
  refine fx_iload d_PL_pack_18 rfl ?_
  refine fx_iload d_PL_pack_20 rfl ?_
  obtain ⟨hz1, H⟩ := H
  obtain ⟨hz2, H⟩ := H
  refine fx_icmp_ge (t := 46) (n := 25) d_PL_pack_22 hz1 hz2 (fun z3 => ?_) (fun z3 => ?_)
  · replace H := H.1 z3
    refine fx_iinc (v := x5 + 1) (ls2 := [some (.ref 13), some (.ref p), none, some (.int (zI x3)), some (.int (zI x4)), some (.int (zI (x5 + 1))), some (.int (zI x6))]) d_PL_pack_46 rfl rfl (by decide) rfl ?_
    refine fx_goto (n := 9) d_PL_pack_49 ?_
    exact fx_fewer [some (.ref 13), some (.ref p), none, some (.int (zI x3)), some (.int (zI x4)), some (.int (zI (x5 + 1))), none] ⟨rfl, rfl, rfl, rfl, rfl, trivial⟩ H
  · replace H := H.2 z3
    refine fx_aload_n (i := 0) d_PL_pack_25 rfl rfl ?_
    refine fx_getR (q := 1) d_PL_pack_26 lk_PL_7 (at_13 (h := _) hS) rfl rfl ?_
    refine fx_aload_n (i := 1) d_PL_pack_29 rfl rfl ?_
    refine fx_iload d_PL_pack_30 rfl ?_
    refine fx_iload d_PL_pack_32 rfl ?_
    refine fx_callV (M' := M_PI_rowByte) (B' := (0, 0)) (vs := [.int (zI x5), .int (zI x6)]) (rest := [.ref 1]) (c1 := 0) (s1 := 0) (n := 37) d_PL_pack_34 ca_PL_pack_23 hp rfl rfl rfl ⟨by decide, by decide⟩ (Nat.le_of_ble_eq_true rfl) (Or.inl rfl) (fx_Mt.mono H fun v h4 hv => ?_)
    obtain ⟨r6, rfl, e5, H⟩ := hv
    have hS4 := e5.trans hS
    have hp4 : h4.1[p]? = some (hp_a, .inl (10, [some (p + 1), none, none, none])) := by rw [e5]; exact hp
    have hx4 : h4.1[(p + 1)]? = some (hx_a, .inr (0, 960)) := by rw [e5]; exact hx
    show fx_V l M_PL_pack (0, 0) Q 0 0 37 [some (.ref 13), some (.ref p), none, some (.int (zI x3)), some (.int (zI x4)), some (.int (zI x5)), some (.int (zI x6))] [.int (zI r6), .ref 1] h4
    refine fx_callV (M' := M_BY_append) (B' := (0, 0)) (vs := [.int (zI r6)]) (rest := []) (c1 := 0) (s1 := 0) (n := 40) d_PL_pack_37 ca_PL_pack_27 (at_1 (h := _) hS4) rfl rfl rfl ⟨by decide, by decide⟩ (Nat.le_of_ble_eq_true rfl) (Or.inl rfl) (fx_Mt.mono H fun v h7 hv => ?_)
    obtain ⟨rfl, e8, H⟩ := hv
    have hS7 := e8.trans hS4
    have hp7 : h7.1[p]? = some (hp_a, .inl (10, [some (p + 1), none, none, none])) := by rw [e8]; exact hp4
    have hx7 : h7.1[(p + 1)]? = some (hx_a, .inr (0, 960)) := by rw [e8]; exact hx4
    show fx_V l M_PL_pack (0, 0) Q 0 0 40 [some (.ref 13), some (.ref p), none, some (.int (zI x3)), some (.int (zI x4)), some (.int (zI x5)), some (.int (zI x6))] [] h7
    refine fx_iinc (v := x6 + 1) (ls2 := [some (.ref 13), some (.ref p), none, some (.int (zI x3)), some (.int (zI x4)), some (.int (zI x5)), some (.int (zI (x6 + 1)))]) d_PL_pack_40 rfl rfl (by decide) rfl ?_
    refine fx_goto (n := 18) d_PL_pack_43 ?_
    exact H

set_option maxRecDepth 100000 in
set_option maxHeartbeats 4000000 in
theorem e_PL_unpack {l : Launch} {Q : Option Value → fx_H → Prop} {h : fx_H} {p : Nat} {x : Int} {y : Int} {hp_a : Nat} {hx_a : Nat} {a : Nat → Nat} {pp dd : Nat} (hS : h.1 = fx_S0 a pp dd) (hp : h.1[p]? = some (hp_a, .inl (10, [some (p + 1), none, none, none]))) (hx : h.1[(p + 1)]? = some (hx_a, .inr (0, 960)))
    (H : fx_Mt l M_PI_rowBytes (0, 0) [.ref p] h (fun v h1 => ∃ r3 : Int, v = some (.int (zI r3)) ∧ h1.1 = h.1 ∧ (fx_V l M_PL_unpack (0, 0) Q 0 0 9 [some (.ref 13), some (.ref p), none, some (.int (zI y)), some (.int (zI r3)), some (.int (zI x)), none, none] [] h1))) :
    fx_Mt l M_PL_unpack (0, 0) [.ref 13, .ref p, .int (zI x), .int (zI y)] h Q := by
  refine fx_entry (ls := [some (.ref 13), some (.ref p), some (.int (zI x)), some (.int (zI y)), none, none, none, none]) (by decide) (Nat.le_of_ble_eq_true rfl) rfl ?_
  refine fx_aload_n (i := 1) d_PL_unpack_0 rfl rfl ?_
  refine fx_callV (M' := M_PI_rowBytes) (B' := (0, 0)) (vs := []) (rest := []) (c1 := 0) (s1 := 0) (n := 4) d_PL_unpack_1 ca_PL_unpack_17 hp rfl rfl rfl ⟨by decide, by decide⟩ (Nat.le_of_ble_eq_true rfl) (Or.inl rfl) (fx_Mt.mono H fun v h1 hv => ?_)
  obtain ⟨r3, rfl, e2, H⟩ := hv
  have hS1 := e2.trans hS
  have hp1 : h1.1[p]? = some (hp_a, .inl (10, [some (p + 1), none, none, none])) := by rw [e2]; exact hp
  have hx1 : h1.1[(p + 1)]? = some (hx_a, .inr (0, 960)) := by rw [e2]; exact hx
  show fx_V l M_PL_unpack (0, 0) Q 0 0 4 [some (.ref 13), some (.ref p), some (.int (zI x)), some (.int (zI y)), none, none, none, none] [.int (zI r3)] h1
  refine fx_istore (ls2 := [some (.ref 13), some (.ref p), some (.int (zI x)), some (.int (zI y)), some (.int (zI r3)), none, none, none]) d_PL_unpack_4 (by decide) rfl ?_
  refine fx_iload_n (i := 2) d_PL_unpack_6 rfl rfl ?_
  refine fx_istore (ls2 := [some (.ref 13), some (.ref p), some (.int (zI x)), some (.int (zI y)), some (.int (zI r3)), some (.int (zI x)), none, none]) d_PL_unpack_7 (by decide) rfl ?_
  exact fx_fewer [some (.ref 13), some (.ref p), none, some (.int (zI y)), some (.int (zI r3)), some (.int (zI x)), none, none] ⟨rfl, rfl, rfl, rfl, rfl, trivial⟩ H

set_option maxRecDepth 100000 in
set_option maxHeartbeats 4000000 in
theorem w_PL_unpack_9 {l : Launch} {Q : Option Value → fx_H → Prop} {h : fx_H} {p : Nat} {x3 : Int} {x4 : Int} {x5 : Int} {hp_a : Nat} {hx_a : Nat} {a : Nat → Nat} {pp dd : Nat} (hS : h.1 = fx_S0 a pp dd) (hp : h.1[p]? = some (hp_a, .inl (10, [some (p + 1), none, none, none]))) (hx : h.1[(p + 1)]? = some (hx_a, .inr (0, 960)))
    (H : zR x5 ∧ zR x3 ∧ ((x3 ≤ x5 → fx_Mt l M_BR_atEnd (0, 0) [.ref 3] h (fun v h4 => ∃ r6 : Int, v = some (.int (zI r6)) ∧ h4.1 = h.1 ∧ (r6 = 0 ∨ r6 = 1) ∧ Q (some (.int (zI r6))) h4)) ∧ (¬ (x3 ≤ x5) → (fx_V l M_PL_unpack (0, 0) Q 0 0 18 [some (.ref 13), some (.ref p), none, some (.int (zI x3)), some (.int (zI x4)), some (.int (zI x5)), some (.int (zI 0)), none] [] h)))) :
    fx_V l M_PL_unpack (0, 0) Q 0 0 9 [some (.ref 13), some (.ref p), none, some (.int (zI x3)), some (.int (zI x4)), some (.int (zI x5)), none, none] [] h := by
  refine fx_iload d_PL_unpack_9 rfl ?_
  refine fx_iload_n (i := 3) d_PL_unpack_11 rfl rfl ?_
  obtain ⟨hz1, H⟩ := H
  obtain ⟨hz2, H⟩ := H
  refine fx_icmp_ge (t := 68) (n := 15) d_PL_unpack_12 hz1 hz2 (fun z3 => ?_) (fun z3 => ?_)
  · replace H := H.1 z3
    refine fx_aload_n (i := 0) d_PL_unpack_68 rfl rfl ?_
    refine fx_getR (q := 3) d_PL_unpack_69 lk_PL_13 (at_13 (h := _) hS) rfl rfl ?_
    refine fx_callV (M' := M_BR_atEnd) (B' := (0, 0)) (vs := []) (rest := []) (c1 := 0) (s1 := 0) (n := 75) d_PL_unpack_72 ca_PL_unpack_43 (at_3 (h := _) hS) rfl rfl rfl ⟨by decide, by decide⟩ (Nat.le_of_ble_eq_true rfl) (Or.inl rfl) (fx_Mt.mono H fun v h4 hv => ?_)
    obtain ⟨r6, rfl, e5, H⟩ := hv
    have hS4 := e5.trans hS
    have hp4 : h4.1[p]? = some (hp_a, .inl (10, [some (p + 1), none, none, none])) := by rw [e5]; exact hp
    have hx4 : h4.1[(p + 1)]? = some (hx_a, .inr (0, 960)) := by rw [e5]; exact hx
    show fx_V l M_PL_unpack (0, 0) Q 0 0 75 [some (.ref 13), some (.ref p), none, some (.int (zI x3)), some (.int (zI x4)), some (.int (zI x5)), none, none] [.int (zI r6)] h4
    obtain ⟨hn7, H⟩ := H
    exact fx_end (some (.int (zI r6))) ⟨⟨_, rfl, fx_nb hn7⟩, d_PL_unpack_75⟩ (Nat.le_refl _) (Nat.le_refl _) rfl H
  · replace H := H.2 z3
    refine fx_iconst d_PL_unpack_15 ?_
    refine fx_istore (ls2 := [some (.ref 13), some (.ref p), none, some (.int (zI x3)), some (.int (zI x4)), some (.int (zI x5)), some (.int (zI 0)), none]) d_PL_unpack_16 (by decide) rfl ?_
    exact H

set_option maxRecDepth 100000 in
set_option maxHeartbeats 4000000 in
theorem w_PL_unpack_18 {l : Launch} {Q : Option Value → fx_H → Prop} {h : fx_H} {p : Nat} {x3 : Int} {x4 : Int} {x5 : Int} {x6 : Int} {hp_a : Nat} {hx_a : Nat} {a : Nat → Nat} {pp dd : Nat} (hS : h.1 = fx_S0 a pp dd) (hp : h.1[p]? = some (hp_a, .inl (10, [some (p + 1), none, none, none]))) (hx : h.1[(p + 1)]? = some (hx_a, .inr (0, 960)))
    (H : zR x6 ∧ zR x4 ∧ ((x4 ≤ x6 → (fx_V l M_PL_unpack (0, 0) Q 0 0 9 [some (.ref 13), some (.ref p), none, some (.int (zI x3)), some (.int (zI x4)), some (.int (zI (x5 + 1))), none, none] [] h)) ∧ (¬ (x4 ≤ x6) → fx_Mt l M_BR_number (0, 0) [.ref 3, .int (zI 8)] h (fun v h4 => ∃ r6 : Int, v = some (.int (zI r6)) ∧ h4.1 = h.1 ∧ zR r6 ∧ ((r6 < 0 → Q (some (.int (zI 0))) h4) ∧ (¬ (r6 < 0) → fx_Mt l M_PI_paintRowByte (0, 0) [.ref p, .int (zI x5), .int (zI x6), .int (zI r6)] h4 (fun v h9 => ∃ r11 : Int, v = some (.int (zI r11)) ∧ h9.1 = h4.1 ∧ zR r11 ∧ ((¬ r11 = 0 → (fx_V l M_PL_unpack (0, 0) Q 0 0 18 [some (.ref 13), some (.ref p), none, some (.int (zI x3)), some (.int (zI x4)), some (.int (zI x5)), some (.int (zI (x6 + 1))), none] [] h9)) ∧ (r11 = 0 → Q (some (.int (zI 0))) h9))))))))) :
    fx_V l M_PL_unpack (0, 0) Q 0 0 18 [some (.ref 13), some (.ref p), none, some (.int (zI x3)), some (.int (zI x4)), some (.int (zI x5)), some (.int (zI x6)), none] [] h := by
  refine fx_iload d_PL_unpack_18 rfl ?_
  refine fx_iload d_PL_unpack_20 rfl ?_
  obtain ⟨hz1, H⟩ := H
  obtain ⟨hz2, H⟩ := H
  refine fx_icmp_ge (t := 62) (n := 25) d_PL_unpack_22 hz1 hz2 (fun z3 => ?_) (fun z3 => ?_)
  · replace H := H.1 z3
    refine fx_iinc (v := x5 + 1) (ls2 := [some (.ref 13), some (.ref p), none, some (.int (zI x3)), some (.int (zI x4)), some (.int (zI (x5 + 1))), some (.int (zI x6)), none]) d_PL_unpack_62 rfl rfl (by decide) rfl ?_
    refine fx_goto (n := 9) d_PL_unpack_65 ?_
    exact fx_fewer [some (.ref 13), some (.ref p), none, some (.int (zI x3)), some (.int (zI x4)), some (.int (zI (x5 + 1))), none, none] ⟨rfl, rfl, rfl, rfl, rfl, trivial⟩ H
  · replace H := H.2 z3
    refine fx_aload_n (i := 0) d_PL_unpack_25 rfl rfl ?_
    refine fx_getR (q := 3) d_PL_unpack_26 lk_PL_13 (at_13 (h := _) hS) rfl rfl ?_
    refine fx_bipush (v := 8) d_PL_unpack_29 rfl ?_
    refine fx_callV (M' := M_BR_number) (B' := (0, 0)) (vs := [.int (zI 8)]) (rest := []) (c1 := 0) (s1 := 0) (n := 34) d_PL_unpack_31 ca_PL_unpack_33 (at_3 (h := _) hS) rfl rfl rfl ⟨by decide, by decide⟩ (Nat.le_of_ble_eq_true rfl) (Or.inl rfl) (fx_Mt.mono H fun v h4 hv => ?_)
    obtain ⟨r6, rfl, e5, H⟩ := hv
    have hS4 := e5.trans hS
    have hp4 : h4.1[p]? = some (hp_a, .inl (10, [some (p + 1), none, none, none])) := by rw [e5]; exact hp
    have hx4 : h4.1[(p + 1)]? = some (hx_a, .inr (0, 960)) := by rw [e5]; exact hx
    show fx_V l M_PL_unpack (0, 0) Q 0 0 34 [some (.ref 13), some (.ref p), none, some (.int (zI x3)), some (.int (zI x4)), some (.int (zI x5)), some (.int (zI x6)), none] [.int (zI r6)] h4
    refine fx_istore (ls2 := [some (.ref 13), some (.ref p), none, some (.int (zI x3)), some (.int (zI x4)), some (.int (zI x5)), some (.int (zI x6)), some (.int (zI r6))]) d_PL_unpack_34 (by decide) rfl ?_
    refine fx_iload d_PL_unpack_36 rfl ?_
    obtain ⟨hz7, H⟩ := H
    refine fx_if_lt (t := 54) (n := 41) d_PL_unpack_38 hz7 (fun z8 => ?_) (fun z8 => ?_)
    · replace H := H.1 z8
      refine fx_iconst d_PL_unpack_54 ?_
      exact fx_end (some (.int (zI 0))) ⟨⟨_, rfl, rfl⟩, d_PL_unpack_55⟩ (Nat.le_refl _) (Nat.le_refl _) rfl H
    · replace H := H.2 z8
      refine fx_aload_n (i := 1) d_PL_unpack_41 rfl rfl ?_
      refine fx_iload d_PL_unpack_42 rfl ?_
      refine fx_iload d_PL_unpack_44 rfl ?_
      refine fx_iload d_PL_unpack_46 rfl ?_
      refine fx_callV (M' := M_PI_paintRowByte) (B' := (0, 0)) (vs := [.int (zI x5), .int (zI x6), .int (zI r6)]) (rest := []) (c1 := 0) (s1 := 0) (n := 51) d_PL_unpack_48 ca_PL_unpack_39 hp4 rfl rfl rfl ⟨by decide, by decide⟩ (Nat.le_of_ble_eq_true rfl) (Or.inl rfl) (fx_Mt.mono H fun v h9 hv => ?_)
      obtain ⟨r11, rfl, e10, H⟩ := hv
      have hS9 := e10.trans hS4
      have hp9 : h9.1[p]? = some (hp_a, .inl (10, [some (p + 1), none, none, none])) := by rw [e10]; exact hp4
      have hx9 : h9.1[(p + 1)]? = some (hx_a, .inr (0, 960)) := by rw [e10]; exact hx4
      show fx_V l M_PL_unpack (0, 0) Q 0 0 51 [some (.ref 13), some (.ref p), none, some (.int (zI x3)), some (.int (zI x4)), some (.int (zI x5)), some (.int (zI x6)), some (.int (zI r6))] [.int (zI r11)] h9
      obtain ⟨hz12, H⟩ := H
      refine fx_if_ne (t := 56) (n := 54) d_PL_unpack_51 hz12 (fun z13 => ?_) (fun z13 => ?_)
      · replace H := H.1 z13
        refine fx_iinc (v := x6 + 1) (ls2 := [some (.ref 13), some (.ref p), none, some (.int (zI x3)), some (.int (zI x4)), some (.int (zI x5)), some (.int (zI (x6 + 1))), some (.int (zI r6))]) d_PL_unpack_56 rfl rfl (by decide) rfl ?_
        refine fx_goto (n := 18) d_PL_unpack_59 ?_
        exact fx_fewer [some (.ref 13), some (.ref p), none, some (.int (zI x3)), some (.int (zI x4)), some (.int (zI x5)), some (.int (zI (x6 + 1))), none] ⟨rfl, rfl, rfl, rfl, rfl, rfl, trivial⟩ H
      · replace H := H.2 z13
        refine fx_iconst d_PL_unpack_54 ?_
        exact fx_end (some (.int (zI 0))) ⟨⟨_, rfl, rfl⟩, d_PL_unpack_55⟩ (Nat.le_refl _) (Nat.le_refl _) rfl H

