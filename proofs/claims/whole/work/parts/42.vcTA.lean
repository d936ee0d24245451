/-! what is owed of the numbers, by program (wip/printvc.py) -/
set_option maxRecDepth 100000 in
set_option maxHeartbeats 4000000 in
theorem e_TA_bitsOfCode {l : Launch} {Q : Option Value → fx_H → Prop} {h : fx_H}  {n : Int}  {a : Nat → Nat} {pp dd : Nat} (hS : h.1 = fx_S0 a pp dd) 
    (H : zR n ∧ ((255 ≤ n → ((767 ≤ n → Q (some (.int (zI 11))) h) ∧ (¬ (767 ≤ n) → Q (some (.int (zI 10))) h))) ∧ (¬ (255 ≤ n) → Q (some (.int (zI 9))) h))) :
    fx_Mt l M_TA_bitsOfCode (0, 0) [.int (zI n)] h Q := by
  refine fx_entry (ls := [some (.int (zI n))]) (by decide) (Nat.le_of_ble_eq_true rfl) rfl ?_
  refine fx_iload_n (i := 0) d_TA_bitsOfCode_0 rfl rfl ?_
  refine fx_sipush (v := 255) d_TA_bitsOfCode_1 rfl ?_
  obtain ⟨hz1, H⟩ := H
  refine fx_icmp_ge (t := 10) (n := 7) d_TA_bitsOfCode_4 hz1 (show zR 255 by decide) (fun z2 => ?_) (fun z2 => ?_)
  · replace H := H.1 z2
    refine fx_iload_n (i := 0) d_TA_bitsOfCode_10 rfl rfl ?_
    refine fx_sipush (v := 767) d_TA_bitsOfCode_11 rfl ?_
    refine fx_icmp_ge (t := 22) (n := 17) d_TA_bitsOfCode_14 hz1 (show zR 767 by decide) (fun z3 => ?_) (fun z3 => ?_)
    · replace H := H.1 z3
      refine fx_bipush (v := 11) d_TA_bitsOfCode_22 rfl ?_
      exact fx_end (some (.int (zI 11))) ⟨⟨_, rfl, rfl⟩, d_TA_bitsOfCode_24⟩ (Nat.le_refl _) (Nat.le_refl _) rfl H
    · replace H := H.2 z3
      refine fx_bipush (v := 10) d_TA_bitsOfCode_17 rfl ?_
      refine fx_goto (n := 24) d_TA_bitsOfCode_19 ?_
      exact fx_end (some (.int (zI 10))) ⟨⟨_, rfl, rfl⟩, d_TA_bitsOfCode_24⟩ (Nat.le_refl _) (Nat.le_refl _) rfl H
  · replace H := H.2 z2
    refine fx_bipush (v := 9) d_TA_bitsOfCode_7 rfl ?_
    exact fx_end (some (.int (zI 9))) ⟨⟨_, rfl, rfl⟩, d_TA_bitsOfCode_9⟩ (Nat.le_refl _) (Nat.le_refl _) rfl H

set_option maxRecDepth 100000 in
set_option maxHeartbeats 4000000 in
theorem e_TA_pack {l : Launch} {Q : Option Value → fx_H → Prop} {h : fx_H} {p : Nat} {x : Int} {y : Int} {hp_a : Nat} {hx_a : Nat} {a : Nat → Nat} {pp dd : Nat} (hS : h.1 = fx_S0 a pp dd) (hp : h.1[p]? = some (hp_a, .inl (10, [some (p + 1), none, none, none]))) (hx : h.1[(p + 1)]? = some (hx_a, .inr (0, 960)))
    (H : fx_Mt l M_TA_collect (0, 0) [.ref 16, .ref p, .int (zI x), .int (zI y)] h (fun v h1 => ∃ r3 : Int, v = some (.int (zI r3)) ∧ h1.1 = h.1 ∧ fx_Mt l M_AR_fill (0, 0) [.ref 18, .int (zI 0)] h1 (fun v h4 => v = none ∧ h4.1 = h1.1 ∧ fx_Mt l M_TA_bitsOfCode (0, 0) [.int (zI 0)] (fx_uF (fx_uF h4 16 9 258) 16 8 0) (fun v h6 => ∃ r8 : Int, v = some (.int (zI r8)) ∧ h6.1 = (fx_uF (fx_uF h4 16 9 258) 16 8 0).1 ∧ fx_Mt l M_BY_appendBits (0, 0) [.ref 1, .int (zI 256), .int (zI r8)] h6 (fun v h9 => v = none ∧ h9.1 = h6.1 ∧ (fx_V l M_TA_pack (0, 0) Q 0 0 54 [some (.ref 16), none, none, none, some (.int (zI r3)), some (.int (zI (h9.2.2.1 17 0))), some (.int (zI 1)), none] [] h9)))))) :
    fx_Mt l M_TA_pack (0, 0) [.ref 16, .ref p, .int (zI x), .int (zI y)] h Q := by
  refine fx_entry (ls := [some (.ref 16), some (.ref p), some (.int (zI x)), some (.int (zI y)), none, none, none, none]) (by decide) (Nat.le_of_ble_eq_true rfl) rfl ?_
  refine fx_aload_n (i := 0) d_TA_pack_0 rfl rfl ?_
  refine fx_aload_n (i := 1) d_TA_pack_1 rfl rfl ?_
  refine fx_iload_n (i := 2) d_TA_pack_2 rfl rfl ?_
  refine fx_iload_n (i := 3) d_TA_pack_3 rfl rfl ?_
  refine fx_callV (M' := M_TA_collect) (B' := (0, 0)) (vs := [.ref p, .int (zI x), .int (zI y)]) (rest := []) (c1 := 0) (s1 := 0) (n := 7) d_TA_pack_4 ca_TA_pack_38 (at_16 (h := _) hS) rfl rfl rfl ⟨by decide, by decide⟩ (Nat.le_of_ble_eq_true rfl) (Or.inl rfl) (fx_Mt.mono H fun v h1 hv => ?_)
  obtain ⟨r3, rfl, e2, H⟩ := hv
  have hS1 := e2.trans hS
  have hp1 : h1.1[p]? = some (hp_a, .inl (10, [some (p + 1), none, none, none])) := by rw [e2]; exact hp
  have hx1 : h1.1[(p + 1)]? = some (hx_a, .inr (0, 960)) := by rw [e2]; exact hx
  show fx_V l M_TA_pack (0, 0) Q 0 0 7 [some (.ref 16), some (.ref p), some (.int (zI x)), some (.int (zI y)), none, none, none, none] [.int (zI r3)] h1
  refine fx_istore (ls2 := [some (.ref 16), some (.ref p), some (.int (zI x)), some (.int (zI y)), some (.int (zI r3)), none, none, none]) d_TA_pack_7 (by decide) rfl ?_
  refine fx_aload_n (i := 0) d_TA_pack_9 rfl rfl ?_
  refine fx_getR (q := 18) d_TA_pack_10 lk_TA_23 (at_16 (h := _) hS1) rfl rfl ?_
  refine fx_iconst d_TA_pack_13 ?_
  refine fx_callS (M' := M_AR_fill) (B' := (0, 0)) (vs := [.ref 18, .int (zI 0)]) (rest := []) (c1 := 0) (s1 := 0) (n := 17) d_TA_pack_14 ca_TA_pack_42 rfl rfl ⟨by decide, by decide⟩ (Nat.le_of_ble_eq_true rfl) (Or.inl rfl) (fx_Mt.mono H fun v h4 hv => ?_)
  obtain ⟨rfl, e5, H⟩ := hv
  have hS4 := e5.trans hS1
  have hp4 : h4.1[p]? = some (hp_a, .inl (10, [some (p + 1), none, none, none])) := by rw [e5]; exact hp1
  have hx4 : h4.1[(p + 1)]? = some (hx_a, .inr (0, 960)) := by rw [e5]; exact hx1
  show fx_V l M_TA_pack (0, 0) Q 0 0 17 [some (.ref 16), some (.ref p), some (.int (zI x)), some (.int (zI y)), some (.int (zI r3)), none, none, none] [] h4
  refine fx_aload_n (i := 0) d_TA_pack_17 rfl rfl ?_
  refine fx_sipush (v := 258) d_TA_pack_18 rfl ?_
  refine fx_putI d_TA_pack_21 lk_TA_48 (at_16 (h := _) hS4) rfl rfl rfl ?_
  refine fx_aload_n (i := 0) d_TA_pack_24 rfl rfl ?_
  refine fx_iconst d_TA_pack_25 ?_
  refine fx_putI d_TA_pack_26 lk_TA_52 (at_16 (h := _) hS4) rfl rfl rfl ?_
  refine fx_aload_n (i := 0) d_TA_pack_29 rfl rfl ?_
  refine fx_getR (q := 1) d_TA_pack_30 lk_TA_11 (at_16 (h := _) hS4) rfl rfl ?_
  refine fx_sipush (v := 256) d_TA_pack_33 rfl ?_
  refine fx_iconst d_TA_pack_36 ?_
  refine fx_callS (M' := M_TA_bitsOfCode) (B' := (0, 0)) (vs := [.int (zI 0)]) (rest := [.int (zI 256), .ref 1]) (c1 := 0) (s1 := 0) (n := 40) d_TA_pack_37 ca_TA_pack_55 rfl rfl ⟨by decide, by decide⟩ (Nat.le_of_ble_eq_true rfl) (Or.inl rfl) (fx_Mt.mono H fun v h6 hv => ?_)
  obtain ⟨r8, rfl, e7, H⟩ := hv
  have hS6 := e7.trans hS4
  have hp6 : h6.1[p]? = some (hp_a, .inl (10, [some (p + 1), none, none, none])) := by rw [e7]; exact hp4
  have hx6 : h6.1[(p + 1)]? = some (hx_a, .inr (0, 960)) := by rw [e7]; exact hx4
  show fx_V l M_TA_pack (0, 0) Q 0 0 40 [some (.ref 16), some (.ref p), some (.int (zI x)), some (.int (zI y)), some (.int (zI r3)), none, none, none] [.int (zI r8), .int (zI 256), .ref 1] h6
  refine fx_callV (M' := M_BY_appendBits) (B' := (0, 0)) (vs := [.int (zI 256), .int (zI r8)]) (rest := []) (c1 := 0) (s1 := 0) (n := 43) d_TA_pack_40 ca_TA_pack_59 (at_1 (h := _) hS6) rfl rfl rfl ⟨by decide, by decide⟩ (Nat.le_of_ble_eq_true rfl) (Or.inl rfl) (fx_Mt.mono H fun v h9 hv => ?_)
  obtain ⟨rfl, e10, H⟩ := hv
  have hS9 := e10.trans hS6
  have hp9 : h9.1[p]? = some (hp_a, .inl (10, [some (p + 1), none, none, none])) := by rw [e10]; exact hp6
  have hx9 : h9.1[(p + 1)]? = some (hx_a, .inr (0, 960)) := by rw [e10]; exact hx6
  show fx_V l M_TA_pack (0, 0) Q 0 0 43 [some (.ref 16), some (.ref p), some (.int (zI x)), some (.int (zI y)), some (.int (zI r3)), none, none, none] [] h9
  refine fx_aload_n (i := 0) d_TA_pack_43 rfl rfl ?_
  refine fx_getR (q := 17) d_TA_pack_44 lk_TA_19 (at_16 (h := _) hS9) rfl rfl ?_
  refine fx_iconst d_TA_pack_47 ?_
  refine fx_iald d_TA_pack_48 (at_17 (h := _) hS9) (by decide) (by decide) (by decide) ?_
  refine fx_istore (ls2 := [some (.ref 16), some (.ref p), some (.int (zI x)), some (.int (zI y)), some (.int (zI r3)), some (.int (zI (h9.2.2.1 17 0))), none, none]) d_TA_pack_49 (by decide) rfl ?_
  refine fx_iconst d_TA_pack_51 ?_
  refine fx_istore (ls2 := [some (.ref 16), some (.ref p), some (.int (zI x)), some (.int (zI y)), some (.int (zI r3)), some (.int (zI (h9.2.2.1 17 0))), some (.int (zI 1)), none]) d_TA_pack_52 (by decide) rfl ?_
  exact fx_fewer [some (.ref 16), none, none, none, some (.int (zI r3)), some (.int (zI (h9.2.2.1 17 0))), some (.int (zI 1)), none] ⟨rfl, rfl, rfl, rfl, trivial⟩ H

set_option maxRecDepth 100000 in
set_option maxHeartbeats 4000000 in
theorem w_TA_pack_54 {l : Launch} {Q : Option Value → fx_H → Prop} {h : fx_H} {p : Nat} {x4 : Int} {x5 : Int} {x6 : Int} {hp_a : Nat} {hx_a : Nat} {a : Nat → Nat} {pp dd : Nat} (hS : h.1 = fx_S0 a pp dd) (hp : h.1[p]? = some (hp_a, .inl (10, [some (p + 1), none, none, none]))) (hx : h.1[(p + 1)]? = some (hx_a, .inr (0, 960)))
    (H : zR x6 ∧ zR x4 ∧ ((x4 ≤ x6 → fx_Mt l M_TA_packCode (0, 0) [.ref 16, .int (zI x5)] h (fun v h4 => v = none ∧ h4.1 = h.1 ∧ fx_Mt l M_TA_packCode (0, 0) [.ref 16, .int (zI 257)] h4 (fun v h6 => v = none ∧ h6.1 = h4.1 ∧ fx_Mt l M_BY_endBits (0, 0) [.ref 1] h6 (fun v h8 => v = none ∧ h8.1 = h6.1 ∧ Q none h8)))) ∧ (¬ (x4 ≤ x6) → 0 ≤ x6 ∧ x6 < 400 ∧ fx_Mt l M_TA_longerEntry (0, 0) [.ref 16, .int (zI x5), .int (zI (h.2.2.1 17 (x6.toNat)))] h (fun v h12 => ∃ r14 : Int, v = some (.int (zI r14)) ∧ h12.1 = h.1 ∧ zR r14 ∧ ((¬ r14 = 0 → (fx_V l M_TA_pack (0, 0) Q 0 0 54 [some (.ref 16), none, none, none, some (.int (zI x4)), some (.int (zI r14)), some (.int (zI (x6 + 1))), none] [] h12)) ∧ (r14 = 0 → fx_Mt l M_TA_packCode (0, 0) [.ref 16, .int (zI x5)] h12 (fun v h17 => v = none ∧ h17.1 = h12.1 ∧ 0 ≤ x6 ∧ x6 < 400 ∧ fx_Mt l M_TA_makeEntry (0, 0) [.ref 16, .int (zI x5), .int (zI (h17.2.2.1 17 (x6.toNat)))] h17 (fun v h21 => v = none ∧ h21.1 = h17.1 ∧ 0 ≤ x6 ∧ x6 < 400 ∧ (fx_V l M_TA_pack (0, 0) Q 0 0 54 [some (.ref 16), none, none, none, some (.int (zI x4)), some (.int (zI (h21.2.2.1 17 (x6.toNat)))), some (.int (zI (x6 + 1))), none] [] h21))))))))) :
    fx_V l M_TA_pack (0, 0) Q 0 0 54 [some (.ref 16), none, none, none, some (.int (zI x4)), some (.int (zI x5)), some (.int (zI x6)), none] [] h := by
  refine fx_iload d_TA_pack_54 rfl ?_
  refine fx_iload d_TA_pack_56 rfl ?_
  obtain ⟨hz1, H⟩ := H
  obtain ⟨hz2, H⟩ := H
  refine fx_icmp_ge (t := 119) (n := 61) d_TA_pack_58 hz1 hz2 (fun z3 => ?_) (fun z3 => ?_)
  · replace H := H.1 z3
    refine fx_aload_n (i := 0) d_TA_pack_119 rfl rfl ?_
    refine fx_iload d_TA_pack_120 rfl ?_
    refine fx_callV (M' := M_TA_packCode) (B' := (0, 0)) (vs := [.int (zI x5)]) (rest := []) (c1 := 0) (s1 := 0) (n := 125) d_TA_pack_122 ca_TA_pack_69 (at_16 (h := _) hS) rfl rfl rfl ⟨by decide, by decide⟩ (Nat.le_of_ble_eq_true rfl) (Or.inl rfl) (fx_Mt.mono H fun v h4 hv => ?_)
    obtain ⟨rfl, e5, H⟩ := hv
    have hS4 := e5.trans hS
    have hp4 : h4.1[p]? = some (hp_a, .inl (10, [some (p + 1), none, none, none])) := by rw [e5]; exact hp
    have hx4 : h4.1[(p + 1)]? = some (hx_a, .inr (0, 960)) := by rw [e5]; exact hx
    show fx_V l M_TA_pack (0, 0) Q 0 0 125 [some (.ref 16), none, none, none, some (.int (zI x4)), some (.int (zI x5)), some (.int (zI x6)), none] [] h4
    refine fx_aload_n (i := 0) d_TA_pack_125 rfl rfl ?_
    refine fx_sipush (v := 257) d_TA_pack_126 rfl ?_
    refine fx_callV (M' := M_TA_packCode) (B' := (0, 0)) (vs := [.int (zI 257)]) (rest := []) (c1 := 0) (s1 := 0) (n := 132) d_TA_pack_129 ca_TA_pack_69 (at_16 (h := _) hS4) rfl rfl rfl ⟨by decide, by decide⟩ (Nat.le_of_ble_eq_true rfl) (Or.inl rfl) (fx_Mt.mono H fun v h6 hv => ?_)
    obtain ⟨rfl, e7, H⟩ := hv
    have hS6 := e7.trans hS4
    have hp6 : h6.1[p]? = some (hp_a, .inl (10, [some (p + 1), none, none, none])) := by rw [e7]; exact hp4
    have hx6 : h6.1[(p + 1)]? = some (hx_a, .inr (0, 960)) := by rw [e7]; exact hx4
    show fx_V l M_TA_pack (0, 0) Q 0 0 132 [some (.ref 16), none, none, none, some (.int (zI x4)), some (.int (zI x5)), some (.int (zI x6)), none] [] h6
    refine fx_aload_n (i := 0) d_TA_pack_132 rfl rfl ?_
    refine fx_getR (q := 1) d_TA_pack_133 lk_TA_11 (at_16 (h := _) hS6) rfl rfl ?_
    refine fx_callV (M' := M_BY_endBits) (B' := (0, 0)) (vs := []) (rest := []) (c1 := 0) (s1 := 0) (n := 139) d_TA_pack_136 ca_TA_pack_76 (at_1 (h := _) hS6) rfl rfl rfl ⟨by decide, by decide⟩ (Nat.le_of_ble_eq_true rfl) (Or.inl rfl) (fx_Mt.mono H fun v h8 hv => ?_)
    obtain ⟨rfl, e9, H⟩ := hv
    have hS8 := e9.trans hS6
    have hp8 : h8.1[p]? = some (hp_a, .inl (10, [some (p + 1), none, none, none])) := by rw [e9]; exact hp6
    have hx8 : h8.1[(p + 1)]? = some (hx_a, .inr (0, 960)) := by rw [e9]; exact hx6
    show fx_V l M_TA_pack (0, 0) Q 0 0 139 [some (.ref 16), none, none, none, some (.int (zI x4)), some (.int (zI x5)), some (.int (zI x6)), none] [] h8
    exact fx_end none ⟨rfl, d_TA_pack_139⟩ (Nat.le_refl _) (Nat.le_refl _) rfl H
  · replace H := H.2 z3
    refine fx_aload_n (i := 0) d_TA_pack_61 rfl rfl ?_
    refine fx_iload d_TA_pack_62 rfl ?_
    refine fx_aload_n (i := 0) d_TA_pack_64 rfl rfl ?_
    refine fx_getR (q := 17) d_TA_pack_65 lk_TA_19 (at_16 (h := _) hS) rfl rfl ?_
    refine fx_iload d_TA_pack_68 rfl ?_
    obtain ⟨hn10, H⟩ := H
    obtain ⟨hn11, H⟩ := H
    refine fx_iald d_TA_pack_70 (at_17 (h := _) hS) hn10 hn11 (by decide) ?_
    refine fx_callV (M' := M_TA_longerEntry) (B' := (0, 0)) (vs := [.int (zI x5), .int (zI (h.2.2.1 17 (x6.toNat)))]) (rest := []) (c1 := 0) (s1 := 0) (n := 74) d_TA_pack_71 ca_TA_pack_65 (at_16 (h := _) hS) rfl rfl rfl ⟨by decide, by decide⟩ (Nat.le_of_ble_eq_true rfl) (Or.inl rfl) (fx_Mt.mono H fun v h12 hv => ?_)
    obtain ⟨r14, rfl, e13, H⟩ := hv
    have hS12 := e13.trans hS
    have hp12 : h12.1[p]? = some (hp_a, .inl (10, [some (p + 1), none, none, none])) := by rw [e13]; exact hp
    have hx12 : h12.1[(p + 1)]? = some (hx_a, .inr (0, 960)) := by rw [e13]; exact hx
    show fx_V l M_TA_pack (0, 0) Q 0 0 74 [some (.ref 16), none, none, none, some (.int (zI x4)), some (.int (zI x5)), some (.int (zI x6)), none] [.int (zI r14)] h12
    refine fx_istore (ls2 := [some (.ref 16), none, none, none, some (.int (zI x4)), some (.int (zI x5)), some (.int (zI x6)), some (.int (zI r14))]) d_TA_pack_74 (by decide) rfl ?_
    refine fx_iload d_TA_pack_76 rfl ?_
    obtain ⟨hz15, H⟩ := H
    refine fx_if_ne (t := 109) (n := 81) d_TA_pack_78 hz15 (fun z16 => ?_) (fun z16 => ?_)
    · replace H := H.1 z16
      refine fx_iload d_TA_pack_109 rfl ?_
      refine fx_istore (ls2 := [some (.ref 16), none, none, none, some (.int (zI x4)), some (.int (zI r14)), some (.int (zI x6)), some (.int (zI r14))]) d_TA_pack_111 (by decide) rfl ?_
      refine fx_iinc (v := x6 + 1) (ls2 := [some (.ref 16), none, none, none, some (.int (zI x4)), some (.int (zI r14)), some (.int (zI (x6 + 1))), some (.int (zI r14))]) d_TA_pack_113 rfl rfl (by decide) rfl ?_
      refine fx_goto (n := 54) d_TA_pack_116 ?_
      exact fx_fewer [some (.ref 16), none, none, none, some (.int (zI x4)), some (.int (zI r14)), some (.int (zI (x6 + 1))), none] ⟨rfl, rfl, rfl, rfl, trivial⟩ H
    · replace H := H.2 z16
      refine fx_aload_n (i := 0) d_TA_pack_81 rfl rfl ?_
      refine fx_iload d_TA_pack_82 rfl ?_
      refine fx_callV (M' := M_TA_packCode) (B' := (0, 0)) (vs := [.int (zI x5)]) (rest := []) (c1 := 0) (s1 := 0) (n := 87) d_TA_pack_84 ca_TA_pack_69 (at_16 (h := _) hS12) rfl rfl rfl ⟨by decide, by decide⟩ (Nat.le_of_ble_eq_true rfl) (Or.inl rfl) (fx_Mt.mono H fun v h17 hv => ?_)
      obtain ⟨rfl, e18, H⟩ := hv
      have hS17 := e18.trans hS12
      have hp17 : h17.1[p]? = some (hp_a, .inl (10, [some (p + 1), none, none, none])) := by rw [e18]; exact hp12
      have hx17 : h17.1[(p + 1)]? = some (hx_a, .inr (0, 960)) := by rw [e18]; exact hx12
      show fx_V l M_TA_pack (0, 0) Q 0 0 87 [some (.ref 16), none, none, none, some (.int (zI x4)), some (.int (zI x5)), some (.int (zI x6)), some (.int (zI r14))] [] h17
      refine fx_aload_n (i := 0) d_TA_pack_87 rfl rfl ?_
      refine fx_iload d_TA_pack_88 rfl ?_
      refine fx_aload_n (i := 0) d_TA_pack_90 rfl rfl ?_
      refine fx_getR (q := 17) d_TA_pack_91 lk_TA_19 (at_16 (h := _) hS17) rfl rfl ?_
      refine fx_iload d_TA_pack_94 rfl ?_
      obtain ⟨hn19, H⟩ := H
      obtain ⟨hn20, H⟩ := H
      refine fx_iald d_TA_pack_96 (at_17 (h := _) hS17) hn19 hn20 (by decide) ?_
      refine fx_callV (M' := M_TA_makeEntry) (B' := (0, 0)) (vs := [.int (zI x5), .int (zI (h17.2.2.1 17 (x6.toNat)))]) (rest := []) (c1 := 0) (s1 := 0) (n := 100) d_TA_pack_97 ca_TA_pack_73 (at_16 (h := _) hS17) rfl rfl rfl ⟨by decide, by decide⟩ (Nat.le_of_ble_eq_true rfl) (Or.inl rfl) (fx_Mt.mono H fun v h21 hv => ?_)
      obtain ⟨rfl, e22, H⟩ := hv
      have hS21 := e22.trans hS17
      have hp21 : h21.1[p]? = some (hp_a, .inl (10, [some (p + 1), none, none, none])) := by rw [e22]; exact hp17
      have hx21 : h21.1[(p + 1)]? = some (hx_a, .inr (0, 960)) := by rw [e22]; exact hx17
      show fx_V l M_TA_pack (0, 0) Q 0 0 100 [some (.ref 16), none, none, none, some (.int (zI x4)), some (.int (zI x5)), some (.int (zI x6)), some (.int (zI r14))] [] h21
      refine fx_aload_n (i := 0) d_TA_pack_100 rfl rfl ?_
      refine fx_getR (q := 17) d_TA_pack_101 lk_TA_19 (at_16 (h := _) hS21) rfl rfl ?_
      refine fx_iload d_TA_pack_104 rfl ?_
      obtain ⟨hn23, H⟩ := H
      obtain ⟨hn24, H⟩ := H
      refine fx_iald d_TA_pack_106 (at_17 (h := _) hS21) hn23 hn24 (by decide) ?_
      refine fx_istore (ls2 := [some (.ref 16), none, none, none, some (.int (zI x4)), some (.int (zI x5)), some (.int (zI x6)), some (.int (zI (h21.2.2.1 17 (x6.toNat))))]) d_TA_pack_107 (by decide) rfl ?_
      refine fx_iload d_TA_pack_109 rfl ?_
      refine fx_istore (ls2 := [some (.ref 16), none, none, none, some (.int (zI x4)), some (.int (zI (h21.2.2.1 17 (x6.toNat)))), some (.int (zI x6)), some (.int (zI (h21.2.2.1 17 (x6.toNat))))]) d_TA_pack_111 (by decide) rfl ?_
      refine fx_iinc (v := x6 + 1) (ls2 := [some (.ref 16), none, none, none, some (.int (zI x4)), some (.int (zI (h21.2.2.1 17 (x6.toNat)))), some (.int (zI (x6 + 1))), some (.int (zI (h21.2.2.1 17 (x6.toNat))))]) d_TA_pack_113 rfl rfl (by decide) rfl ?_
      refine fx_goto (n := 54) d_TA_pack_116 ?_
      exact fx_fewer [some (.ref 16), none, none, none, some (.int (zI x4)), some (.int (zI (h21.2.2.1 17 (x6.toNat)))), some (.int (zI (x6 + 1))), none] ⟨rfl, rfl, rfl, rfl, trivial⟩ H

set_option maxRecDepth 100000 in
set_option maxHeartbeats 4000000 in
theorem e_TA_collect {l : Launch} {Q : Option Value → fx_H → Prop} {h : fx_H} {p : Nat} {x : Int} {y : Int} {hp_a : Nat} {hx_a : Nat} {a : Nat → Nat} {pp dd : Nat} (hS : h.1 = fx_S0 a pp dd) (hp : h.1[p]? = some (hp_a, .inl (10, [some (p + 1), none, none, none]))) (hx : h.1[(p + 1)]? = some (hx_a, .inr (0, 960)))
    (H : (fx_V l M_TA_collect (0, 0) Q 0 0 6 [some (.ref 16), some (.ref p), none, some (.int (zI y)), some (.int (zI 0)), some (.int (zI x)), none] [] h)) :
    fx_Mt l M_TA_collect (0, 0) [.ref 16, .ref p, .int (zI x), .int (zI y)] h Q := by
  refine fx_entry (ls := [some (.ref 16), some (.ref p), some (.int (zI x)), some (.int (zI y)), none, none, none]) (by decide) (Nat.le_of_ble_eq_true rfl) rfl ?_
  refine fx_iconst d_TA_collect_0 ?_
  refine fx_istore (ls2 := [some (.ref 16), some (.ref p), some (.int (zI x)), some (.int (zI y)), some (.int (zI 0)), none, none]) d_TA_collect_1 (by decide) rfl ?_
  refine fx_iload_n (i := 2) d_TA_collect_3 rfl rfl ?_
  refine fx_istore (ls2 := [some (.ref 16), some (.ref p), some (.int (zI x)), some (.int (zI y)), some (.int (zI 0)), some (.int (zI x)), none]) d_TA_collect_4 (by decide) rfl ?_
  exact fx_fewer [some (.ref 16), some (.ref p), none, some (.int (zI y)), some (.int (zI 0)), some (.int (zI x)), none] ⟨rfl, rfl, rfl, rfl, rfl, trivial⟩ H

set_option maxRecDepth 100000 in
set_option maxHeartbeats 4000000 in
theorem w_TA_collect_6 {l : Launch} {Q : Option Value → fx_H → Prop} {h : fx_H} {p : Nat} {x3 : Int} {x4 : Int} {x5 : Int} {hp_a : Nat} {hx_a : Nat} {a : Nat → Nat} {pp dd : Nat} (hS : h.1 = fx_S0 a pp dd) (hp : h.1[p]? = some (hp_a, .inl (10, [some (p + 1), none, none, none]))) (hx : h.1[(p + 1)]? = some (hx_a, .inr (0, 960)))
    (H : zR x5 ∧ zR x3 ∧ ((x3 ≤ x5 → Q (some (.int (zI x4))) h) ∧ (¬ (x3 ≤ x5) → (fx_V l M_TA_collect (0, 0) Q 0 0 15 [some (.ref 16), some (.ref p), none, some (.int (zI x3)), some (.int (zI x4)), some (.int (zI x5)), some (.int (zI 0))] [] h)))) :
    fx_V l M_TA_collect (0, 0) Q 0 0 6 [some (.ref 16), some (.ref p), none, some (.int (zI x3)), some (.int (zI x4)), some (.int (zI x5)), none] [] h := by
  refine fx_iload d_TA_collect_6 rfl ?_
  refine fx_iload_n (i := 3) d_TA_collect_8 rfl rfl ?_
  obtain ⟨hz1, H⟩ := H
  obtain ⟨hz2, H⟩ := H
  refine fx_icmp_ge (t := 64) (n := 12) d_TA_collect_9 hz1 hz2 (fun z3 => ?_) (fun z3 => ?_)
  · replace H := H.1 z3
    refine fx_iload d_TA_collect_64 rfl ?_
    exact fx_end (some (.int (zI x4))) ⟨⟨_, rfl, rfl⟩, d_TA_collect_66⟩ (Nat.le_refl _) (Nat.le_refl _) rfl H
  · replace H := H.2 z3
    refine fx_iconst d_TA_collect_12 ?_
    refine fx_istore (ls2 := [some (.ref 16), some (.ref p), none, some (.int (zI x3)), some (.int (zI x4)), some (.int (zI x5)), some (.int (zI 0))]) d_TA_collect_13 (by decide) rfl ?_
    exact H

set_option maxRecDepth 100000 in
set_option maxHeartbeats 4000000 in
theorem w_TA_collect_15 {l : Launch} {Q : Option Value → fx_H → Prop} {h : fx_H} {p : Nat} {x3 : Int} {x4 : Int} {x5 : Int} {x6 : Int} {hp_a : Nat} {hx_a : Nat} {a : Nat → Nat} {pp dd : Nat} (hS : h.1 = fx_S0 a pp dd) (hp : h.1[p]? = some (hp_a, .inl (10, [some (p + 1), none, none, none]))) (hx : h.1[(p + 1)]? = some (hx_a, .inr (0, 960)))
    (H : fx_Mt l M_PI_rowBytes (0, 0) [.ref p] h (fun v h1 => ∃ r3 : Int, v = some (.int (zI r3)) ∧ h1.1 = h.1 ∧ zR x6 ∧ zR r3 ∧ ((r3 ≤ x6 → (fx_V l M_TA_collect (0, 0) Q 0 0 6 [some (.ref 16), some (.ref p), none, some (.int (zI x3)), some (.int (zI x4)), some (.int (zI (x5 + 1))), none] [] h1)) ∧ (¬ (r3 ≤ x6) → zR x4 ∧ ((400 ≤ x4 → (fx_V l M_TA_collect (0, 0) Q 0 0 6 [some (.ref 16), some (.ref p), none, some (.int (zI x3)), some (.int (zI x4)), some (.int (zI (x5 + 1))), none] [] h1)) ∧ (¬ (400 ≤ x4) → fx_Mt l M_PI_rowByte (0, 0) [.ref p, .int (zI x5), .int (zI x6)] h1 (fun v h9 => ∃ r11 : Int, v = some (.int (zI r11)) ∧ h9.1 = h1.1 ∧ 0 ≤ x4 ∧ x4 < 400 ∧ (fx_V l M_TA_collect (0, 0) Q 0 0 15 [some (.ref 16), some (.ref p), none, some (.int (zI x3)), some (.int (zI (x4 + 1))), some (.int (zI x5)), some (.int (zI (x6 + 1)))] [] (fx_uA h9 17 (x4.toNat) r11))))))))) :
    fx_V l M_TA_collect (0, 0) Q 0 0 15 [some (.ref 16), some (.ref p), none, some (.int (zI x3)), some (.int (zI x4)), some (.int (zI x5)), some (.int (zI x6))] [] h := by
  refine fx_iload d_TA_collect_15 rfl ?_
  refine fx_aload_n (i := 1) d_TA_collect_17 rfl rfl ?_
  refine fx_callV (M' := M_PI_rowBytes) (B' := (0, 0)) (vs := []) (rest := [.int (zI x6)]) (c1 := 0) (s1 := 0) (n := 21) d_TA_collect_18 ca_TA_collect_79 hp rfl rfl rfl ⟨by decide, by decide⟩ (Nat.le_of_ble_eq_true rfl) (Or.inl rfl) (fx_Mt.mono H fun v h1 hv => ?_)
  obtain ⟨r3, rfl, e2, H⟩ := hv
  have hS1 := e2.trans hS
  have hp1 : h1.1[p]? = some (hp_a, .inl (10, [some (p + 1), none, none, none])) := by rw [e2]; exact hp
  have hx1 : h1.1[(p + 1)]? = some (hx_a, .inr (0, 960)) := by rw [e2]; exact hx
  show fx_V l M_TA_collect (0, 0) Q 0 0 21 [some (.ref 16), some (.ref p), none, some (.int (zI x3)), some (.int (zI x4)), some (.int (zI x5)), some (.int (zI x6))] [.int (zI r3), .int (zI x6)] h1
  obtain ⟨hz4, H⟩ := H
  obtain ⟨hz5, H⟩ := H
  refine fx_icmp_ge (t := 58) (n := 24) d_TA_collect_21 hz4 hz5 (fun z6 => ?_) (fun z6 => ?_)
  · replace H := H.1 z6
    refine fx_iinc (v := x5 + 1) (ls2 := [some (.ref 16), some (.ref p), none, some (.int (zI x3)), some (.int (zI x4)), some (.int (zI (x5 + 1))), some (.int (zI x6))]) d_TA_collect_58 rfl rfl (by decide) rfl ?_
    refine fx_goto (n := 6) d_TA_collect_61 ?_
    exact fx_fewer [some (.ref 16), some (.ref p), none, some (.int (zI x3)), some (.int (zI x4)), some (.int (zI (x5 + 1))), none] ⟨rfl, rfl, rfl, rfl, rfl, trivial⟩ H
  · replace H := H.2 z6
    refine fx_iload d_TA_collect_24 rfl ?_
    refine fx_aload_n (i := 0) d_TA_collect_26 rfl rfl ?_
    refine fx_getR (q := 17) d_TA_collect_27 lk_TA_19 (at_16 (h := _) hS1) rfl rfl ?_
    refine fx_alen (v := 400) d_TA_collect_30 (at_17 (h := _) hS1) rfl ?_
    obtain ⟨hz7, H⟩ := H
    refine fx_icmp_ge (t := 58) (n := 34) d_TA_collect_31 hz7 (show zR 400 by decide) (fun z8 => ?_) (fun z8 => ?_)
    · replace H := H.1 z8
      refine fx_iinc (v := x5 + 1) (ls2 := [some (.ref 16), some (.ref p), none, some (.int (zI x3)), some (.int (zI x4)), some (.int (zI (x5 + 1))), some (.int (zI x6))]) d_TA_collect_58 rfl rfl (by decide) rfl ?_
      refine fx_goto (n := 6) d_TA_collect_61 ?_
      exact fx_fewer [some (.ref 16), some (.ref p), none, some (.int (zI x3)), some (.int (zI x4)), some (.int (zI (x5 + 1))), none] ⟨rfl, rfl, rfl, rfl, rfl, trivial⟩ H
    · replace H := H.2 z8
      refine fx_aload_n (i := 0) d_TA_collect_34 rfl rfl ?_
      refine fx_getR (q := 17) d_TA_collect_35 lk_TA_19 (at_16 (h := _) hS1) rfl rfl ?_
      refine fx_iload d_TA_collect_38 rfl ?_
      refine fx_aload_n (i := 1) d_TA_collect_40 rfl rfl ?_
      refine fx_iload d_TA_collect_41 rfl ?_
      refine fx_iload d_TA_collect_43 rfl ?_
      refine fx_callV (M' := M_PI_rowByte) (B' := (0, 0)) (vs := [.int (zI x5), .int (zI x6)]) (rest := [.int (zI x4), .ref 17]) (c1 := 0) (s1 := 0) (n := 48) d_TA_collect_45 ca_TA_collect_85 hp1 rfl rfl rfl ⟨by decide, by decide⟩ (Nat.le_of_ble_eq_true rfl) (Or.inl rfl) (fx_Mt.mono H fun v h9 hv => ?_)
      obtain ⟨r11, rfl, e10, H⟩ := hv
      have hS9 := e10.trans hS1
      have hp9 : h9.1[p]? = some (hp_a, .inl (10, [some (p + 1), none, none, none])) := by rw [e10]; exact hp1
      have hx9 : h9.1[(p + 1)]? = some (hx_a, .inr (0, 960)) := by rw [e10]; exact hx1
      show fx_V l M_TA_collect (0, 0) Q 0 0 48 [some (.ref 16), some (.ref p), none, some (.int (zI x3)), some (.int (zI x4)), some (.int (zI x5)), some (.int (zI x6))] [.int (zI r11), .int (zI x4), .ref 17] h9
      obtain ⟨hn12, H⟩ := H
      obtain ⟨hn13, H⟩ := H
      refine fx_iast d_TA_collect_48 (at_17 (h := _) hS9) hn12 hn13 (by decide) ?_
      refine fx_iinc (v := x4 + 1) (ls2 := [some (.ref 16), some (.ref p), none, some (.int (zI x3)), some (.int (zI (x4 + 1))), some (.int (zI x5)), some (.int (zI x6))]) d_TA_collect_49 rfl rfl (by decide) rfl ?_
      refine fx_iinc (v := x6 + 1) (ls2 := [some (.ref 16), some (.ref p), none, some (.int (zI x3)), some (.int (zI (x4 + 1))), some (.int (zI x5)), some (.int (zI (x6 + 1)))]) d_TA_collect_52 rfl rfl (by decide) rfl ?_
      refine fx_goto (n := 15) d_TA_collect_55 ?_
      exact H

set_option maxRecDepth 100000 in
set_option maxHeartbeats 4000000 in
theorem e_TA_packCode {l : Launch} {Q : Option Value → fx_H → Prop} {h : fx_H}  {c : Int}  {a : Nat → Nat} {pp dd : Nat} (hS : h.1 = fx_S0 a pp dd) 
    (H : fx_Mt l M_TA_bitsOfCode (0, 0) [.int (zI ((h.2.1 16 8) + 1))] (fx_uF h 16 8 ((h.2.1 16 8) + 1)) (fun v h1 => ∃ r3 : Int, v = some (.int (zI r3)) ∧ h1.1 = (fx_uF h 16 8 ((h.2.1 16 8) + 1)).1 ∧ fx_Mt l M_BY_appendBits (0, 0) [.ref 1, .int (zI c), .int (zI r3)] h1 (fun v h4 => v = none ∧ h4.1 = h1.1 ∧ Q none h4))) :
    fx_Mt l M_TA_packCode (0, 0) [.ref 16, .int (zI c)] h Q := by
  refine fx_entry (ls := [some (.ref 16), some (.int (zI c))]) (by decide) (Nat.le_of_ble_eq_true rfl) rfl ?_
  refine fx_aload_n (i := 0) d_TA_packCode_0 rfl rfl ?_
  refine fx_dup d_TA_packCode_1 rfl ?_
  refine fx_getI d_TA_packCode_2 lk_TA_52 (at_16 (h := _) hS) rfl ?_
  refine fx_iconst d_TA_packCode_5 ?_
  refine fx_iadd d_TA_packCode_6 ?_
  refine fx_putI d_TA_packCode_7 lk_TA_52 (at_16 (h := _) hS) rfl rfl rfl ?_
  refine fx_aload_n (i := 0) d_TA_packCode_10 rfl rfl ?_
  refine fx_getR (q := 1) d_TA_packCode_11 lk_TA_11 (at_16 (h := _) hS) rfl rfl ?_
  refine fx_iload_n (i := 1) d_TA_packCode_14 rfl rfl ?_
  refine fx_aload_n (i := 0) d_TA_packCode_15 rfl rfl ?_
  refine fx_getI d_TA_packCode_16 lk_TA_52 (at_16 (h := _) hS) rfl ?_
  refine fx_callS (M' := M_TA_bitsOfCode) (B' := (0, 0)) (vs := [.int (zI ((h.2.1 16 8) + 1))]) (rest := [.int (zI c), .ref 1]) (c1 := 0) (s1 := 0) (n := 22) d_TA_packCode_19 ca_TA_packCode_55 rfl rfl ⟨by decide, by decide⟩ (Nat.le_of_ble_eq_true rfl) (Or.inl rfl) (fx_Mt.mono H fun v h1 hv => ?_)
  obtain ⟨r3, rfl, e2, H⟩ := hv
  have hS1 := e2.trans hS
  show fx_V l M_TA_packCode (0, 0) Q 0 0 22 [some (.ref 16), some (.int (zI c))] [.int (zI r3), .int (zI c), .ref 1] h1
  refine fx_callV (M' := M_BY_appendBits) (B' := (0, 0)) (vs := [.int (zI c), .int (zI r3)]) (rest := []) (c1 := 0) (s1 := 0) (n := 25) d_TA_packCode_22 ca_TA_packCode_59 (at_1 (h := _) hS1) rfl rfl rfl ⟨by decide, by decide⟩ (Nat.le_of_ble_eq_true rfl) (Or.inl rfl) (fx_Mt.mono H fun v h4 hv => ?_)
  obtain ⟨rfl, e5, H⟩ := hv
  have hS4 := e5.trans hS1
  show fx_V l M_TA_packCode (0, 0) Q 0 0 25 [some (.ref 16), some (.int (zI c))] [] h4
  exact fx_end none ⟨rfl, d_TA_packCode_25⟩ (Nat.le_refl _) (Nat.le_refl _) rfl H

set_option maxRecDepth 100000 in
set_option maxHeartbeats 4000000 in
theorem e_TA_longerEntry {l : Launch} {Q : Option Value → fx_H → Prop} {h : fx_H}  {x : Int} {b : Int}  {a : Nat → Nat} {pp dd : Nat} (hS : h.1 = fx_S0 a pp dd) 
    (H : 0 ≤ x ∧ x < 658 ∧ (fx_V l M_TA_longerEntry (0, 0) Q 0 0 10 [some (.ref 16), none, some (.int (zI b)), some (.int (zI (h.2.2.1 18 (x.toNat)))), some (.int (zI 0))] [] h)) :
    fx_Mt l M_TA_longerEntry (0, 0) [.ref 16, .int (zI x), .int (zI b)] h Q := by
  refine fx_entry (ls := [some (.ref 16), some (.int (zI x)), some (.int (zI b)), none, none]) (by decide) (Nat.le_of_ble_eq_true rfl) rfl ?_
  refine fx_aload_n (i := 0) d_TA_longerEntry_0 rfl rfl ?_
  refine fx_getR (q := 18) d_TA_longerEntry_1 lk_TA_23 (at_16 (h := _) hS) rfl rfl ?_
  refine fx_iload_n (i := 1) d_TA_longerEntry_4 rfl rfl ?_
  obtain ⟨hn1, H⟩ := H
  obtain ⟨hn2, H⟩ := H
  refine fx_iald d_TA_longerEntry_5 (at_18 (h := _) hS) hn1 hn2 (by decide) ?_
  refine fx_istore_n (i := 3) (ls2 := [some (.ref 16), some (.int (zI x)), some (.int (zI b)), some (.int (zI (h.2.2.1 18 (x.toNat)))), none]) d_TA_longerEntry_6 rfl (by decide) rfl ?_
  refine fx_iconst d_TA_longerEntry_7 ?_
  refine fx_istore (ls2 := [some (.ref 16), some (.int (zI x)), some (.int (zI b)), some (.int (zI (h.2.2.1 18 (x.toNat)))), some (.int (zI 0))]) d_TA_longerEntry_8 (by decide) rfl ?_
  exact fx_fewer [some (.ref 16), none, some (.int (zI b)), some (.int (zI (h.2.2.1 18 (x.toNat)))), some (.int (zI 0))] ⟨rfl, rfl, rfl, rfl, trivial⟩ H

set_option maxRecDepth 100000 in
set_option maxHeartbeats 4000000 in
theorem w_TA_longerEntry_10 {l : Launch} {Q : Option Value → fx_H → Prop} {h : fx_H}  {x2 : Int} {x3 : Int} {x4 : Int}  {a : Nat → Nat} {pp dd : Nat} (hS : h.1 = fx_S0 a pp dd) 
    (H : zR x4 ∧ ((658 ≤ x4 → Q (some (.int (zI 0))) h) ∧ (¬ (658 ≤ x4) → zR x3 ∧ ((x3 = 0 → Q (some (.int (zI 0))) h) ∧ (¬ (x3 = 0) → 0 ≤ x3 ∧ x3 < 658 ∧ zR (h.2.2.1 20 (x3.toNat)) ∧ zR x2 ∧ ((¬ (h.2.2.1 20 (x3.toNat)) = x2 → 0 ≤ x3 ∧ x3 < 658 ∧ (fx_V l M_TA_longerEntry (0, 0) Q 0 0 10 [some (.ref 16), none, some (.int (zI x2)), some (.int (zI (h.2.2.1 19 (x3.toNat)))), some (.int (zI (x4 + 1)))] [] h)) ∧ ((h.2.2.1 20 (x3.toNat)) = x2 → Q (some (.int (zI x3))) h))))))) :
    fx_V l M_TA_longerEntry (0, 0) Q 0 0 10 [some (.ref 16), none, some (.int (zI x2)), some (.int (zI x3)), some (.int (zI x4))] [] h := by
  refine fx_iload d_TA_longerEntry_10 rfl ?_
  refine fx_sipush (v := 658) d_TA_longerEntry_12 rfl ?_
  obtain ⟨hz1, H⟩ := H
  refine fx_icmp_ge (t := 47) (n := 18) d_TA_longerEntry_15 hz1 (show zR 658 by decide) (fun z2 => ?_) (fun z2 => ?_)
  · replace H := H.1 z2
    refine fx_iconst d_TA_longerEntry_47 ?_
    exact fx_end (some (.int (zI 0))) ⟨⟨_, rfl, rfl⟩, d_TA_longerEntry_48⟩ (Nat.le_refl _) (Nat.le_refl _) rfl H
  · replace H := H.2 z2
    refine fx_iload_n (i := 3) d_TA_longerEntry_18 rfl rfl ?_
    obtain ⟨hz3, H⟩ := H
    refine fx_if_eq (t := 47) (n := 22) d_TA_longerEntry_19 hz3 (fun z4 => ?_) (fun z4 => ?_)
    · replace H := H.1 z4
      refine fx_iconst d_TA_longerEntry_47 ?_
      exact fx_end (some (.int (zI 0))) ⟨⟨_, rfl, rfl⟩, d_TA_longerEntry_48⟩ (Nat.le_refl _) (Nat.le_refl _) rfl H
    · replace H := H.2 z4
      refine fx_aload_n (i := 0) d_TA_longerEntry_22 rfl rfl ?_
      refine fx_getR (q := 20) d_TA_longerEntry_23 lk_TA_29 (at_16 (h := _) hS) rfl rfl ?_
      refine fx_iload_n (i := 3) d_TA_longerEntry_26 rfl rfl ?_
      obtain ⟨hn5, H⟩ := H
      obtain ⟨hn6, H⟩ := H
      refine fx_iald d_TA_longerEntry_27 (at_20 (h := _) hS) hn5 hn6 (by decide) ?_
      refine fx_iload_n (i := 2) d_TA_longerEntry_28 rfl rfl ?_
      obtain ⟨hz7, H⟩ := H
      obtain ⟨hz8, H⟩ := H
      refine fx_icmp_ne (t := 34) (n := 32) d_TA_longerEntry_29 hz7 hz8 (fun z9 => ?_) (fun z9 => ?_)
      · replace H := H.1 z9
        refine fx_aload_n (i := 0) d_TA_longerEntry_34 rfl rfl ?_
        refine fx_getR (q := 19) d_TA_longerEntry_35 lk_TA_26 (at_16 (h := _) hS) rfl rfl ?_
        refine fx_iload_n (i := 3) d_TA_longerEntry_38 rfl rfl ?_
        obtain ⟨hn10, H⟩ := H
        obtain ⟨hn11, H⟩ := H
        refine fx_iald d_TA_longerEntry_39 (at_19 (h := _) hS) hn10 hn11 (by decide) ?_
        refine fx_istore_n (i := 3) (ls2 := [some (.ref 16), none, some (.int (zI x2)), some (.int (zI (h.2.2.1 19 (x3.toNat)))), some (.int (zI x4))]) d_TA_longerEntry_40 rfl (by decide) rfl ?_
        refine fx_iinc (v := x4 + 1) (ls2 := [some (.ref 16), none, some (.int (zI x2)), some (.int (zI (h.2.2.1 19 (x3.toNat)))), some (.int (zI (x4 + 1)))]) d_TA_longerEntry_41 rfl rfl (by decide) rfl ?_
        refine fx_goto (n := 10) d_TA_longerEntry_44 ?_
        exact H
      · replace H := H.2 z9
        refine fx_iload_n (i := 3) d_TA_longerEntry_32 rfl rfl ?_
        exact fx_end (some (.int (zI x3))) ⟨⟨_, rfl, rfl⟩, d_TA_longerEntry_33⟩ (Nat.le_refl _) (Nat.le_refl _) rfl H

set_option maxRecDepth 100000 in
set_option maxHeartbeats 4000000 in
theorem e_TA_makeEntry {l : Launch} {Q : Option Value → fx_H → Prop} {h : fx_H}  {x : Int} {b : Int}  {a : Nat → Nat} {pp dd : Nat} (hS : h.1 = fx_S0 a pp dd) 
    (H : zR (h.2.1 16 9) ∧ ((658 ≤ (h.2.1 16 9) → Q none h) ∧ (¬ (658 ≤ (h.2.1 16 9)) → 0 ≤ (h.2.1 16 9) ∧ (h.2.1 16 9) < 658 ∧ 0 ≤ x ∧ x < 658 ∧ 0 ≤ (h.2.1 16 9) ∧ (h.2.1 16 9) < 658 ∧ 0 ≤ x ∧ x < 658 ∧ Q none (fx_uF (fx_uA (fx_uA (fx_uA h 20 ((h.2.1 16 9).toNat) b) 19 ((h.2.1 16 9).toNat) (h.2.2.1 18 (x.toNat))) 18 (x.toNat) (h.2.1 16 9)) 16 9 ((h.2.1 16 9) + 1))))) :
    fx_Mt l M_TA_makeEntry (0, 0) [.ref 16, .int (zI x), .int (zI b)] h Q := by
  refine fx_entry (ls := [some (.ref 16), some (.int (zI x)), some (.int (zI b))]) (by decide) (Nat.le_of_ble_eq_true rfl) rfl ?_
  refine fx_aload_n (i := 0) d_TA_makeEntry_0 rfl rfl ?_
  refine fx_getI d_TA_makeEntry_1 lk_TA_48 (at_16 (h := _) hS) rfl ?_
  refine fx_sipush (v := 658) d_TA_makeEntry_4 rfl ?_
  obtain ⟨hz1, H⟩ := H
  refine fx_icmp_ge (t := 55) (n := 10) d_TA_makeEntry_7 hz1 (show zR 658 by decide) (fun z2 => ?_) (fun z2 => ?_)
  · replace H := H.1 z2
    exact fx_end none ⟨rfl, d_TA_makeEntry_55⟩ (Nat.le_refl _) (Nat.le_refl _) rfl H
  · replace H := H.2 z2
    refine fx_aload_n (i := 0) d_TA_makeEntry_10 rfl rfl ?_
    refine fx_getR (q := 20) d_TA_makeEntry_11 lk_TA_29 (at_16 (h := _) hS) rfl rfl ?_
    refine fx_aload_n (i := 0) d_TA_makeEntry_14 rfl rfl ?_
    refine fx_getI d_TA_makeEntry_15 lk_TA_48 (at_16 (h := _) hS) rfl ?_
    refine fx_iload_n (i := 2) d_TA_makeEntry_18 rfl rfl ?_
    obtain ⟨hn3, H⟩ := H
    obtain ⟨hn4, H⟩ := H
    refine fx_iast d_TA_makeEntry_19 (at_20 (h := _) hS) hn3 hn4 (by decide) ?_
    refine fx_aload_n (i := 0) d_TA_makeEntry_20 rfl rfl ?_
    refine fx_getR (q := 19) d_TA_makeEntry_21 lk_TA_26 (at_16 (h := _) hS) rfl rfl ?_
    refine fx_aload_n (i := 0) d_TA_makeEntry_24 rfl rfl ?_
    refine fx_getI d_TA_makeEntry_25 lk_TA_48 (at_16 (h := _) hS) rfl ?_
    refine fx_aload_n (i := 0) d_TA_makeEntry_28 rfl rfl ?_
    refine fx_getR (q := 18) d_TA_makeEntry_29 lk_TA_23 (at_16 (h := _) hS) rfl rfl ?_
    refine fx_iload_n (i := 1) d_TA_makeEntry_32 rfl rfl ?_
    obtain ⟨hn5, H⟩ := H
    obtain ⟨hn6, H⟩ := H
    refine fx_iald d_TA_makeEntry_33 (at_18 (h := _) hS) hn5 hn6 (by decide) ?_
    obtain ⟨hn7, H⟩ := H
    obtain ⟨hn8, H⟩ := H
    refine fx_iast d_TA_makeEntry_34 (at_19 (h := _) hS) hn7 hn8 (by decide) ?_
    refine fx_aload_n (i := 0) d_TA_makeEntry_35 rfl rfl ?_
    refine fx_getR (q := 18) d_TA_makeEntry_36 lk_TA_23 (at_16 (h := _) hS) rfl rfl ?_
    refine fx_iload_n (i := 1) d_TA_makeEntry_39 rfl rfl ?_
    refine fx_aload_n (i := 0) d_TA_makeEntry_40 rfl rfl ?_
    refine fx_getI d_TA_makeEntry_41 lk_TA_48 (at_16 (h := _) hS) rfl ?_
    obtain ⟨hn9, H⟩ := H
    obtain ⟨hn10, H⟩ := H
    refine fx_iast d_TA_makeEntry_44 (at_18 (h := _) hS) hn9 hn10 (by decide) ?_
    refine fx_aload_n (i := 0) d_TA_makeEntry_45 rfl rfl ?_
    refine fx_dup d_TA_makeEntry_46 rfl ?_
    refine fx_getI d_TA_makeEntry_47 lk_TA_48 (at_16 (h := _) hS) rfl ?_
    refine fx_iconst d_TA_makeEntry_50 ?_
    refine fx_iadd d_TA_makeEntry_51 ?_
    refine fx_putI d_TA_makeEntry_52 lk_TA_48 (at_16 (h := _) hS) rfl rfl rfl ?_
    exact fx_end none ⟨rfl, d_TA_makeEntry_55⟩ (Nat.le_refl _) (Nat.le_refl _) rfl H

set_option maxRecDepth 100000 in
set_option maxHeartbeats 4000000 in
theorem e_TA_unpack {l : Launch} {Q : Option Value → fx_H → Prop} {h : fx_H} {p : Nat} {x : Int} {y : Int} {hp_a : Nat} {hx_a : Nat} {a : Nat → Nat} {pp dd : Nat} (hS : h.1 = fx_S0 a pp dd) (hp : h.1[p]? = some (hp_a, .inl (10, [some (p + 1), none, none, none]))) (hx : h.1[(p + 1)]? = some (hx_a, .inr (0, 960)))
    (H : fx_Mt l M_PI_rowBytes (0, 0) [.ref p] h (fun v h1 => ∃ r3 : Int, v = some (.int (zI r3)) ∧ h1.1 = h.1 ∧ zR (r3 * (y - x)) ∧ fx_Mt l M_TA_bitsOfCode (0, 0) [.int (zI 0)] h1 (fun v h5 => ∃ r7 : Int, v = some (.int (zI r7)) ∧ h5.1 = h1.1 ∧ fx_Mt l M_BR_number (0, 0) [.ref 3, .int (zI r7)] h5 (fun v h8 => ∃ r10 : Int, v = some (.int (zI r10)) ∧ h8.1 = h5.1 ∧ zR r10 ∧ ((¬ r10 = 256 → Q (some (.int (zI 0))) h8) ∧ (r10 = 256 → fx_Mt l M_TA_unpackCodes (0, 0) [.ref 16, .int (zI (if 400 < (r3 * (y - x)) then 400 else r3 * (y - x)))] h8 (fun v h13 => ∃ r15 : Int, v = some (.int (zI r15)) ∧ h13.1 = h8.1 ∧ zR r15 ∧ ((r15 = 0 → Q (some (.int (zI 0))) h13) ∧ (¬ (r15 = 0) → fx_Mt l M_BR_onlyFillLeft (0, 0) [.ref 3] h13 (fun v h18 => ∃ r20 : Int, v = some (.int (zI r20)) ∧ h18.1 = h13.1 ∧ zR r20 ∧ ((r20 = 0 → Q (some (.int (zI 0))) h18) ∧ (¬ (r20 = 0) → fx_Mt l M_TA_paintRows (0, 0) [.ref 16, .ref p, .int (zI x), .int (zI y)] h18 (fun v h23 => ∃ r25 : Int, v = some (.int (zI r25)) ∧ h23.1 = h18.1 ∧ zR r25 ∧ ((r25 = 0 → Q (some (.int (zI 0))) h23) ∧ (¬ (r25 = 0) → Q (some (.int (zI 1))) h23))))))))))))))) :
    fx_Mt l M_TA_unpack (0, 0) [.ref 16, .ref p, .int (zI x), .int (zI y)] h Q := by
  refine fx_entry (ls := [some (.ref 16), some (.ref p), some (.int (zI x)), some (.int (zI y)), none]) (by decide) (Nat.le_of_ble_eq_true rfl) rfl ?_
  refine fx_aload_n (i := 1) d_TA_unpack_0 rfl rfl ?_
  refine fx_callV (M' := M_PI_rowBytes) (B' := (0, 0)) (vs := []) (rest := []) (c1 := 0) (s1 := 0) (n := 4) d_TA_unpack_1 ca_TA_unpack_79 hp rfl rfl rfl ⟨by decide, by decide⟩ (Nat.le_of_ble_eq_true rfl) (Or.inl rfl) (fx_Mt.mono H fun v h1 hv => ?_)
  obtain ⟨r3, rfl, e2, H⟩ := hv
  have hS1 := e2.trans hS
  have hp1 : h1.1[p]? = some (hp_a, .inl (10, [some (p + 1), none, none, none])) := by rw [e2]; exact hp
  have hx1 : h1.1[(p + 1)]? = some (hx_a, .inr (0, 960)) := by rw [e2]; exact hx
  show fx_V l M_TA_unpack (0, 0) Q 0 0 4 [some (.ref 16), some (.ref p), some (.int (zI x)), some (.int (zI y)), none] [.int (zI r3)] h1
  refine fx_iload_n (i := 3) d_TA_unpack_4 rfl rfl ?_
  refine fx_iload_n (i := 2) d_TA_unpack_5 rfl rfl ?_
  refine fx_isub d_TA_unpack_6 ?_
  refine fx_imul d_TA_unpack_7 ?_
  refine fx_aload_n (i := 0) d_TA_unpack_8 rfl rfl ?_
  refine fx_getR (q := 17) d_TA_unpack_9 lk_TA_19 (at_16 (h := _) hS1) rfl rfl ?_
  refine fx_alen (v := 400) d_TA_unpack_12 (at_17 (h := _) hS1) rfl ?_
  obtain ⟨hz4, H⟩ := H
  refine fx_min d_TA_unpack_13 mm_TA_88 mw_min_s mw_i mw_min_c ⟨by decide, by decide⟩ (Nat.le_of_ble_eq_true rfl) ⟨Nat.le_refl _, Nat.le_refl _⟩ hz4 (show zR 400 by decide) ?_
  refine fx_istore (ls2 := [some (.ref 16), some (.ref p), some (.int (zI x)), some (.int (zI y)), some (.int (zI (if 400 < (r3 * (y - x)) then 400 else r3 * (y - x))))]) d_TA_unpack_16 (by decide) rfl ?_
  refine fx_aload_n (i := 0) d_TA_unpack_18 rfl rfl ?_
  refine fx_getR (q := 3) d_TA_unpack_19 lk_TA_15 (at_16 (h := _) hS1) rfl rfl ?_
  refine fx_iconst d_TA_unpack_22 ?_
  refine fx_callS (M' := M_TA_bitsOfCode) (B' := (0, 0)) (vs := [.int (zI 0)]) (rest := [.ref 3]) (c1 := 0) (s1 := 0) (n := 26) d_TA_unpack_23 ca_TA_unpack_55 rfl rfl ⟨by decide, by decide⟩ (Nat.le_of_ble_eq_true rfl) (Or.inl rfl) (fx_Mt.mono H fun v h5 hv => ?_)
  obtain ⟨r7, rfl, e6, H⟩ := hv
  have hS5 := e6.trans hS1
  have hp5 : h5.1[p]? = some (hp_a, .inl (10, [some (p + 1), none, none, none])) := by rw [e6]; exact hp1
  have hx5 : h5.1[(p + 1)]? = some (hx_a, .inr (0, 960)) := by rw [e6]; exact hx1
  show fx_V l M_TA_unpack (0, 0) Q 0 0 26 [some (.ref 16), some (.ref p), some (.int (zI x)), some (.int (zI y)), some (.int (zI (if 400 < (r3 * (y - x)) then 400 else r3 * (y - x))))] [.int (zI r7), .ref 3] h5
  refine fx_callV (M' := M_BR_number) (B' := (0, 0)) (vs := [.int (zI r7)]) (rest := []) (c1 := 0) (s1 := 0) (n := 29) d_TA_unpack_26 ca_TA_unpack_93 (at_3 (h := _) hS5) rfl rfl rfl ⟨by decide, by decide⟩ (Nat.le_of_ble_eq_true rfl) (Or.inl rfl) (fx_Mt.mono H fun v h8 hv => ?_)
  obtain ⟨r10, rfl, e9, H⟩ := hv
  have hS8 := e9.trans hS5
  have hp8 : h8.1[p]? = some (hp_a, .inl (10, [some (p + 1), none, none, none])) := by rw [e9]; exact hp5
  have hx8 : h8.1[(p + 1)]? = some (hx_a, .inr (0, 960)) := by rw [e9]; exact hx5
  show fx_V l M_TA_unpack (0, 0) Q 0 0 29 [some (.ref 16), some (.ref p), some (.int (zI x)), some (.int (zI y)), some (.int (zI (if 400 < (r3 * (y - x)) then 400 else r3 * (y - x))))] [.int (zI r10)] h8
  refine fx_sipush (v := 256) d_TA_unpack_29 rfl ?_
  obtain ⟨hz11, H⟩ := H
  refine fx_icmp_ne (t := 68) (n := 35) d_TA_unpack_32 hz11 (show zR 256 by decide) (fun z12 => ?_) (fun z12 => ?_)
  · replace H := H.1 z12
    refine fx_iconst d_TA_unpack_68 ?_
    exact fx_end (some (.int (zI 0))) ⟨⟨_, rfl, rfl⟩, d_TA_unpack_69⟩ (Nat.le_refl _) (Nat.le_refl _) rfl H
  · replace H := H.2 z12
    refine fx_aload_n (i := 0) d_TA_unpack_35 rfl rfl ?_
    refine fx_iload d_TA_unpack_36 rfl ?_
    refine fx_callV (M' := M_TA_unpackCodes) (B' := (0, 0)) (vs := [.int (zI (if 400 < (r3 * (y - x)) then 400 else r3 * (y - x)))]) (rest := []) (c1 := 0) (s1 := 0) (n := 41) d_TA_unpack_38 ca_TA_unpack_98 (at_16 (h := _) hS8) rfl rfl rfl ⟨by decide, by decide⟩ (Nat.le_of_ble_eq_true rfl) (Or.inl rfl) (fx_Mt.mono H fun v h13 hv => ?_)
    obtain ⟨r15, rfl, e14, H⟩ := hv
    have hS13 := e14.trans hS8
    have hp13 : h13.1[p]? = some (hp_a, .inl (10, [some (p + 1), none, none, none])) := by rw [e14]; exact hp8
    have hx13 : h13.1[(p + 1)]? = some (hx_a, .inr (0, 960)) := by rw [e14]; exact hx8
    show fx_V l M_TA_unpack (0, 0) Q 0 0 41 [some (.ref 16), some (.ref p), some (.int (zI x)), some (.int (zI y)), some (.int (zI (if 400 < (r3 * (y - x)) then 400 else r3 * (y - x))))] [.int (zI r15)] h13
    obtain ⟨hz16, H⟩ := H
    refine fx_if_eq (t := 68) (n := 44) d_TA_unpack_41 hz16 (fun z17 => ?_) (fun z17 => ?_)
    · replace H := H.1 z17
      refine fx_iconst d_TA_unpack_68 ?_
      exact fx_end (some (.int (zI 0))) ⟨⟨_, rfl, rfl⟩, d_TA_unpack_69⟩ (Nat.le_refl _) (Nat.le_refl _) rfl H
    · replace H := H.2 z17
      refine fx_aload_n (i := 0) d_TA_unpack_44 rfl rfl ?_
      refine fx_getR (q := 3) d_TA_unpack_45 lk_TA_15 (at_16 (h := _) hS13) rfl rfl ?_
      refine fx_callV (M' := M_BR_onlyFillLeft) (B' := (0, 0)) (vs := []) (rest := []) (c1 := 0) (s1 := 0) (n := 51) d_TA_unpack_48 ca_TA_unpack_102 (at_3 (h := _) hS13) rfl rfl rfl ⟨by decide, by decide⟩ (Nat.le_of_ble_eq_true rfl) (Or.inl rfl) (fx_Mt.mono H fun v h18 hv => ?_)
      obtain ⟨r20, rfl, e19, H⟩ := hv
      have hS18 := e19.trans hS13
      have hp18 : h18.1[p]? = some (hp_a, .inl (10, [some (p + 1), none, none, none])) := by rw [e19]; exact hp13
      have hx18 : h18.1[(p + 1)]? = some (hx_a, .inr (0, 960)) := by rw [e19]; exact hx13
      show fx_V l M_TA_unpack (0, 0) Q 0 0 51 [some (.ref 16), some (.ref p), some (.int (zI x)), some (.int (zI y)), some (.int (zI (if 400 < (r3 * (y - x)) then 400 else r3 * (y - x))))] [.int (zI r20)] h18
      obtain ⟨hz21, H⟩ := H
      refine fx_if_eq (t := 68) (n := 54) d_TA_unpack_51 hz21 (fun z22 => ?_) (fun z22 => ?_)
      · replace H := H.1 z22
        refine fx_iconst d_TA_unpack_68 ?_
        exact fx_end (some (.int (zI 0))) ⟨⟨_, rfl, rfl⟩, d_TA_unpack_69⟩ (Nat.le_refl _) (Nat.le_refl _) rfl H
      · replace H := H.2 z22
        refine fx_aload_n (i := 0) d_TA_unpack_54 rfl rfl ?_
        refine fx_aload_n (i := 1) d_TA_unpack_55 rfl rfl ?_
        refine fx_iload_n (i := 2) d_TA_unpack_56 rfl rfl ?_
        refine fx_iload_n (i := 3) d_TA_unpack_57 rfl rfl ?_
        refine fx_callV (M' := M_TA_paintRows) (B' := (0, 0)) (vs := [.ref p, .int (zI x), .int (zI y)]) (rest := []) (c1 := 0) (s1 := 0) (n := 61) d_TA_unpack_58 ca_TA_unpack_106 (at_16 (h := _) hS18) rfl rfl rfl ⟨by decide, by decide⟩ (Nat.le_of_ble_eq_true rfl) (Or.inl rfl) (fx_Mt.mono H fun v h23 hv => ?_)
        obtain ⟨r25, rfl, e24, H⟩ := hv
        have hS23 := e24.trans hS18
        have hp23 : h23.1[p]? = some (hp_a, .inl (10, [some (p + 1), none, none, none])) := by rw [e24]; exact hp18
        have hx23 : h23.1[(p + 1)]? = some (hx_a, .inr (0, 960)) := by rw [e24]; exact hx18
        show fx_V l M_TA_unpack (0, 0) Q 0 0 61 [some (.ref 16), some (.ref p), some (.int (zI x)), some (.int (zI y)), some (.int (zI (if 400 < (r3 * (y - x)) then 400 else r3 * (y - x))))] [.int (zI r25)] h23
        obtain ⟨hz26, H⟩ := H
        refine fx_if_eq (t := 68) (n := 64) d_TA_unpack_61 hz26 (fun z27 => ?_) (fun z27 => ?_)
        · replace H := H.1 z27
          refine fx_iconst d_TA_unpack_68 ?_
          exact fx_end (some (.int (zI 0))) ⟨⟨_, rfl, rfl⟩, d_TA_unpack_69⟩ (Nat.le_refl _) (Nat.le_refl _) rfl H
        · replace H := H.2 z27
          refine fx_iconst d_TA_unpack_64 ?_
          refine fx_goto (n := 69) d_TA_unpack_65 ?_
          exact fx_end (some (.int (zI 1))) ⟨⟨_, rfl, rfl⟩, d_TA_unpack_69⟩ (Nat.le_refl _) (Nat.le_refl _) rfl H

set_option maxRecDepth 100000 in
set_option maxHeartbeats 4000000 in
theorem e_TA_unpackCodes {l : Launch} {Q : Option Value → fx_H → Prop} {h : fx_H}  {n : Int}  {a : Nat → Nat} {pp dd : Nat} (hS : h.1 = fx_S0 a pp dd) 
    (H : (fx_V l M_TA_unpackCodes (0, 0) Q 0 0 7 [some (.ref 16), some (.int (zI n)), some (.int (zI 0)), some (.int (zI 1)), some (.int (zI 0)), none, none, none] [] h)) :
    fx_Mt l M_TA_unpackCodes (0, 0) [.ref 16, .int (zI n)] h Q := by
  refine fx_entry (ls := [some (.ref 16), some (.int (zI n)), none, none, none, none, none, none]) (by decide) (Nat.le_of_ble_eq_true rfl) rfl ?_
  refine fx_iconst d_TA_unpackCodes_0 ?_
  refine fx_istore_n (i := 2) (ls2 := [some (.ref 16), some (.int (zI n)), some (.int (zI 0)), none, none, none, none, none]) d_TA_unpackCodes_1 rfl (by decide) rfl ?_
  refine fx_iconst d_TA_unpackCodes_2 ?_
  refine fx_istore_n (i := 3) (ls2 := [some (.ref 16), some (.int (zI n)), some (.int (zI 0)), some (.int (zI 1)), none, none, none, none]) d_TA_unpackCodes_3 rfl (by decide) rfl ?_
  refine fx_iconst d_TA_unpackCodes_4 ?_
  refine fx_istore (ls2 := [some (.ref 16), some (.int (zI n)), some (.int (zI 0)), some (.int (zI 1)), some (.int (zI 0)), none, none, none]) d_TA_unpackCodes_5 (by decide) rfl ?_
  exact H

set_option maxRecDepth 100000 in
set_option maxHeartbeats 4000000 in
theorem w_TA_unpackCodes_7 {l : Launch} {Q : Option Value → fx_H → Prop} {h : fx_H}  {x1 : Int} {x2 : Int} {x3 : Int} {x4 : Int}  {a : Nat → Nat} {pp dd : Nat} (hS : h.1 = fx_S0 a pp dd) 
    (H : zR x4 ∧ ((2000 ≤ x4 → Q (some (.int (zI 0))) h) ∧ (¬ (2000 ≤ x4) → fx_Mt l M_TA_bitsOfCode (0, 0) [.int (zI x3)] h (fun v h3 => ∃ r5 : Int, v = some (.int (zI r5)) ∧ h3.1 = h.1 ∧ fx_Mt l M_BR_number (0, 0) [.ref 3, .int (zI r5)] h3 (fun v h6 => ∃ r8 : Int, v = some (.int (zI r8)) ∧ h6.1 = h3.1 ∧ zR r8 ∧ ((¬ r8 = 257 → ((¬ r8 = 256 → ((r8 < 0 → Q (some (.int (zI 0))) h6) ∧ (¬ (r8 < 0) → zR ((258 + x3) - 2) ∧ ((r8 ≤ ((258 + x3) - 2) → ((((258 + x3) - 2) < 658 → ((256 ≤ r8 → 0 ≤ r8 ∧ r8 < 658 ∧ zR (x2 + (h6.2.2.1 22 (r8.toNat))) ∧ zR x1 ∧ (((x2 + (h6.2.2.1 22 (r8.toNat))) ≤ x1 → fx_Mt l M_TA_copyEntry (0, 0) [.ref 16, .int (zI r8), .int (zI x2), .int (zI (h6.2.2.1 22 (r8.toNat)))] h6 (fun v h22 => v = none ∧ h22.1 = h6.1 ∧ zR (((258 + x3) - 2) + 1) ∧ ((658 ≤ (((258 + x3) - 2) + 1) → (fx_V l M_TA_unpackCodes (0, 0) Q 0 0 7 [some (.ref 16), some (.int (zI x1)), some (.int (zI (x2 + (h6.2.2.1 22 (r8.toNat))))), some (.int (zI (x3 + 1))), some (.int (zI (x4 + 1))), none, none, none] [] h22)) ∧ (¬ (658 ≤ (((258 + x3) - 2) + 1)) → 0 ≤ (((258 + x3) - 2) + 1) ∧ (((258 + x3) - 2) + 1) < 658 ∧ 0 ≤ (((258 + x3) - 2) + 1) ∧ (((258 + x3) - 2) + 1) < 658 ∧ (fx_V l M_TA_unpackCodes (0, 0) Q 0 0 7 [some (.ref 16), some (.int (zI x1)), some (.int (zI (x2 + (h6.2.2.1 22 (r8.toNat))))), some (.int (zI (x3 + 1))), some (.int (zI (x4 + 1))), none, none, none] [] (fx_uA (fx_uA h22 21 ((((258 + x3) - 2) + 1).toNat) ((x2 + (h6.2.2.1 22 (r8.toNat))) - (h6.2.2.1 22 (r8.toNat)))) 22 ((((258 + x3) - 2) + 1).toNat) ((h6.2.2.1 22 (r8.toNat)) + 1))))))) ∧ (¬ ((x2 + (h6.2.2.1 22 (r8.toNat))) ≤ x1) → Q (some (.int (zI 0))) h6))) ∧ (¬ (256 ≤ r8) → zR (x2 + 1) ∧ zR x1 ∧ (((x2 + 1) ≤ x1 → fx_Mt l M_TA_copyEntry (0, 0) [.ref 16, .int (zI r8), .int (zI x2), .int (zI 1)] h6 (fun v h33 => v = none ∧ h33.1 = h6.1 ∧ zR (((258 + x3) - 2) + 1) ∧ ((658 ≤ (((258 + x3) - 2) + 1) → (fx_V l M_TA_unpackCodes (0, 0) Q 0 0 7 [some (.ref 16), some (.int (zI x1)), some (.int (zI (x2 + 1))), some (.int (zI (x3 + 1))), some (.int (zI (x4 + 1))), none, none, none] [] h33)) ∧ (¬ (658 ≤ (((258 + x3) - 2) + 1)) → 0 ≤ (((258 + x3) - 2) + 1) ∧ (((258 + x3) - 2) + 1) < 658 ∧ 0 ≤ (((258 + x3) - 2) + 1) ∧ (((258 + x3) - 2) + 1) < 658 ∧ (fx_V l M_TA_unpackCodes (0, 0) Q 0 0 7 [some (.ref 16), some (.int (zI x1)), some (.int (zI (x2 + 1))), some (.int (zI (x3 + 1))), some (.int (zI (x4 + 1))), none, none, none] [] (fx_uA (fx_uA h33 21 ((((258 + x3) - 2) + 1).toNat) ((x2 + 1) - 1)) 22 ((((258 + x3) - 2) + 1).toNat) 2)))))) ∧ (¬ ((x2 + 1) ≤ x1) → Q (some (.int (zI 0))) h6))))) ∧ (¬ (((258 + x3) - 2) < 658) → Q (some (.int (zI 0))) h6))) ∧ (¬ (r8 ≤ ((258 + x3) - 2)) → ((256 < r8 → Q (some (.int (zI 0))) h6) ∧ (¬ (256 < r8) → ((((258 + x3) - 2) < 658 → ((256 ≤ r8 → 0 ≤ r8 ∧ r8 < 658 ∧ zR (x2 + (h6.2.2.1 22 (r8.toNat))) ∧ zR x1 ∧ (((x2 + (h6.2.2.1 22 (r8.toNat))) ≤ x1 → fx_Mt l M_TA_copyEntry (0, 0) [.ref 16, .int (zI r8), .int (zI x2), .int (zI (h6.2.2.1 22 (r8.toNat)))] h6 (fun v h49 => v = none ∧ h49.1 = h6.1 ∧ zR (((258 + x3) - 2) + 1) ∧ ((658 ≤ (((258 + x3) - 2) + 1) → (fx_V l M_TA_unpackCodes (0, 0) Q 0 0 7 [some (.ref 16), some (.int (zI x1)), some (.int (zI (x2 + (h6.2.2.1 22 (r8.toNat))))), some (.int (zI (x3 + 1))), some (.int (zI (x4 + 1))), none, none, none] [] h49)) ∧ (¬ (658 ≤ (((258 + x3) - 2) + 1)) → 0 ≤ (((258 + x3) - 2) + 1) ∧ (((258 + x3) - 2) + 1) < 658 ∧ 0 ≤ (((258 + x3) - 2) + 1) ∧ (((258 + x3) - 2) + 1) < 658 ∧ (fx_V l M_TA_unpackCodes (0, 0) Q 0 0 7 [some (.ref 16), some (.int (zI x1)), some (.int (zI (x2 + (h6.2.2.1 22 (r8.toNat))))), some (.int (zI (x3 + 1))), some (.int (zI (x4 + 1))), none, none, none] [] (fx_uA (fx_uA h49 21 ((((258 + x3) - 2) + 1).toNat) ((x2 + (h6.2.2.1 22 (r8.toNat))) - (h6.2.2.1 22 (r8.toNat)))) 22 ((((258 + x3) - 2) + 1).toNat) ((h6.2.2.1 22 (r8.toNat)) + 1))))))) ∧ (¬ ((x2 + (h6.2.2.1 22 (r8.toNat))) ≤ x1) → Q (some (.int (zI 0))) h6))) ∧ (¬ (256 ≤ r8) → zR (x2 + 1) ∧ zR x1 ∧ (((x2 + 1) ≤ x1 → fx_Mt l M_TA_copyEntry (0, 0) [.ref 16, .int (zI r8), .int (zI x2), .int (zI 1)] h6 (fun v h60 => v = none ∧ h60.1 = h6.1 ∧ zR (((258 + x3) - 2) + 1) ∧ ((658 ≤ (((258 + x3) - 2) + 1) → (fx_V l M_TA_unpackCodes (0, 0) Q 0 0 7 [some (.ref 16), some (.int (zI x1)), some (.int (zI (x2 + 1))), some (.int (zI (x3 + 1))), some (.int (zI (x4 + 1))), none, none, none] [] h60)) ∧ (¬ (658 ≤ (((258 + x3) - 2) + 1)) → 0 ≤ (((258 + x3) - 2) + 1) ∧ (((258 + x3) - 2) + 1) < 658 ∧ 0 ≤ (((258 + x3) - 2) + 1) ∧ (((258 + x3) - 2) + 1) < 658 ∧ (fx_V l M_TA_unpackCodes (0, 0) Q 0 0 7 [some (.ref 16), some (.int (zI x1)), some (.int (zI (x2 + 1))), some (.int (zI (x3 + 1))), some (.int (zI (x4 + 1))), none, none, none] [] (fx_uA (fx_uA h60 21 ((((258 + x3) - 2) + 1).toNat) ((x2 + 1) - 1)) 22 ((((258 + x3) - 2) + 1).toNat) 2)))))) ∧ (¬ ((x2 + 1) ≤ x1) → Q (some (.int (zI 0))) h6))))) ∧ (¬ (((258 + x3) - 2) < 658) → Q (some (.int (zI 0))) h6))))))))) ∧ (r8 = 256 → (fx_V l M_TA_unpackCodes (0, 0) Q 0 0 7 [some (.ref 16), some (.int (zI x1)), some (.int (zI x2)), some (.int (zI 1)), some (.int (zI (x4 + 1))), none, none, none] [] h6)))) ∧ (r8 = 257 → zR x2 ∧ zR x1 ∧ ((¬ x2 = x1 → Q (some (.int (zI 0))) h6) ∧ (x2 = x1 → Q (some (.int (zI 1))) h6))))))))) :
    fx_V l M_TA_unpackCodes (0, 0) Q 0 0 7 [some (.ref 16), some (.int (zI x1)), some (.int (zI x2)), some (.int (zI x3)), some (.int (zI x4)), none, none, none] [] h := by
  refine fx_iload d_TA_unpackCodes_7 rfl ?_
  refine fx_sipush (v := 2000) d_TA_unpackCodes_9 rfl ?_
  obtain ⟨hz1, H⟩ := H
  refine fx_icmp_ge (t := 189) (n := 15) d_TA_unpackCodes_12 hz1 (show zR 2000 by decide) (fun z2 => ?_) (fun z2 => ?_)
  · replace H := H.1 z2
    refine fx_iconst d_TA_unpackCodes_189 ?_
    exact fx_end (some (.int (zI 0))) ⟨⟨_, rfl, rfl⟩, d_TA_unpackCodes_190⟩ (Nat.le_refl _) (Nat.le_refl _) rfl H
  · replace H := H.2 z2
    refine fx_aload_n (i := 0) d_TA_unpackCodes_15 rfl rfl ?_
    refine fx_getR (q := 3) d_TA_unpackCodes_16 lk_TA_15 (at_16 (h := _) hS) rfl rfl ?_
    refine fx_iload_n (i := 3) d_TA_unpackCodes_19 rfl rfl ?_
    refine fx_callS (M' := M_TA_bitsOfCode) (B' := (0, 0)) (vs := [.int (zI x3)]) (rest := [.ref 3]) (c1 := 0) (s1 := 0) (n := 23) d_TA_unpackCodes_20 ca_TA_unpackCodes_55 rfl rfl ⟨by decide, by decide⟩ (Nat.le_of_ble_eq_true rfl) (Or.inl rfl) (fx_Mt.mono H fun v h3 hv => ?_)
    obtain ⟨r5, rfl, e4, H⟩ := hv
    have hS3 := e4.trans hS
    show fx_V l M_TA_unpackCodes (0, 0) Q 0 0 23 [some (.ref 16), some (.int (zI x1)), some (.int (zI x2)), some (.int (zI x3)), some (.int (zI x4)), none, none, none] [.int (zI r5), .ref 3] h3
    refine fx_callV (M' := M_BR_number) (B' := (0, 0)) (vs := [.int (zI r5)]) (rest := []) (c1 := 0) (s1 := 0) (n := 26) d_TA_unpackCodes_23 ca_TA_unpackCodes_93 (at_3 (h := _) hS3) rfl rfl rfl ⟨by decide, by decide⟩ (Nat.le_of_ble_eq_true rfl) (Or.inl rfl) (fx_Mt.mono H fun v h6 hv => ?_)
    obtain ⟨r8, rfl, e7, H⟩ := hv
    have hS6 := e7.trans hS3
    show fx_V l M_TA_unpackCodes (0, 0) Q 0 0 26 [some (.ref 16), some (.int (zI x1)), some (.int (zI x2)), some (.int (zI x3)), some (.int (zI x4)), none, none, none] [.int (zI r8)] h6
    refine fx_istore (ls2 := [some (.ref 16), some (.int (zI x1)), some (.int (zI x2)), some (.int (zI x3)), some (.int (zI x4)), some (.int (zI r8)), none, none]) d_TA_unpackCodes_26 (by decide) rfl ?_
    refine fx_iload d_TA_unpackCodes_28 rfl ?_
    refine fx_sipush (v := 257) d_TA_unpackCodes_30 rfl ?_
    obtain ⟨hz9, H⟩ := H
    refine fx_icmp_ne (t := 47) (n := 36) d_TA_unpackCodes_33 hz9 (show zR 257 by decide) (fun z10 => ?_) (fun z10 => ?_)
    · replace H := H.1 z10
      refine fx_iload d_TA_unpackCodes_47 rfl ?_
      refine fx_sipush (v := 256) d_TA_unpackCodes_49 rfl ?_
      refine fx_icmp_ne (t := 60) (n := 55) d_TA_unpackCodes_52 hz9 (show zR 256 by decide) (fun z11 => ?_) (fun z11 => ?_)
      · replace H := H.1 z11
        refine fx_sipush (v := 258) d_TA_unpackCodes_60 rfl ?_
        refine fx_iload_n (i := 3) d_TA_unpackCodes_63 rfl rfl ?_
        refine fx_iadd d_TA_unpackCodes_64 ?_
        refine fx_iconst d_TA_unpackCodes_65 ?_
        refine fx_isub d_TA_unpackCodes_66 ?_
        refine fx_istore (ls2 := [some (.ref 16), some (.int (zI x1)), some (.int (zI x2)), some (.int (zI x3)), some (.int (zI x4)), some (.int (zI r8)), some (.int (zI ((258 + x3) - 2))), none]) d_TA_unpackCodes_67 (by decide) rfl ?_
        refine fx_iload d_TA_unpackCodes_69 rfl ?_
        refine fx_if_lt (t := 97) (n := 74) d_TA_unpackCodes_71 hz9 (fun z12 => ?_) (fun z12 => ?_)
        · replace H := H.1 z12
          refine fx_iconst d_TA_unpackCodes_97 ?_
          exact fx_end (some (.int (zI 0))) ⟨⟨_, rfl, rfl⟩, d_TA_unpackCodes_98⟩ (Nat.le_refl _) (Nat.le_refl _) rfl H
        · replace H := H.2 z12
          refine fx_iload d_TA_unpackCodes_74 rfl ?_
          refine fx_iload d_TA_unpackCodes_76 rfl ?_
          obtain ⟨hz13, H⟩ := H
          refine fx_icmp_le (t := 89) (n := 81) d_TA_unpackCodes_78 hz9 hz13 (fun z14 => ?_) (fun z14 => ?_)
          · replace H := H.1 z14
            refine fx_iload d_TA_unpackCodes_89 rfl ?_
            refine fx_sipush (v := 658) d_TA_unpackCodes_91 rfl ?_
            refine fx_icmp_lt (t := 99) (n := 97) d_TA_unpackCodes_94 hz13 (show zR 658 by decide) (fun z15 => ?_) (fun z15 => ?_)
            · replace H := H.1 z15
              refine fx_iload d_TA_unpackCodes_99 rfl ?_
              refine fx_sipush (v := 256) d_TA_unpackCodes_101 rfl ?_
              refine fx_icmp_ge (t := 111) (n := 107) d_TA_unpackCodes_104 hz9 (show zR 256 by decide) (fun z16 => ?_) (fun z16 => ?_)
              · replace H := H.1 z16
                refine fx_aload_n (i := 0) d_TA_unpackCodes_111 rfl rfl ?_
                refine fx_getR (q := 22) d_TA_unpackCodes_112 lk_TA_35 (at_16 (h := _) hS6) rfl rfl ?_
                refine fx_iload d_TA_unpackCodes_115 rfl ?_
                obtain ⟨hn17, H⟩ := H
                obtain ⟨hn18, H⟩ := H
                refine fx_iald d_TA_unpackCodes_117 (at_22 (h := _) hS6) hn17 hn18 (by decide) ?_
                refine fx_istore (ls2 := [some (.ref 16), some (.int (zI x1)), some (.int (zI x2)), some (.int (zI x3)), some (.int (zI x4)), some (.int (zI r8)), some (.int (zI ((258 + x3) - 2))), some (.int (zI (h6.2.2.1 22 (r8.toNat))))]) d_TA_unpackCodes_118 (by decide) rfl ?_
                refine fx_iload_n (i := 2) d_TA_unpackCodes_120 rfl rfl ?_
                refine fx_iload d_TA_unpackCodes_121 rfl ?_
                refine fx_iadd d_TA_unpackCodes_123 ?_
                refine fx_iload_n (i := 1) d_TA_unpackCodes_124 rfl rfl ?_
                obtain ⟨hz19, H⟩ := H
                obtain ⟨hz20, H⟩ := H
                refine fx_icmp_le (t := 130) (n := 128) d_TA_unpackCodes_125 hz19 hz20 (fun z21 => ?_) (fun z21 => ?_)
                · replace H := H.1 z21
                  refine fx_aload_n (i := 0) d_TA_unpackCodes_130 rfl rfl ?_
                  refine fx_iload d_TA_unpackCodes_131 rfl ?_
                  refine fx_iload_n (i := 2) d_TA_unpackCodes_133 rfl rfl ?_
                  refine fx_iload d_TA_unpackCodes_134 rfl ?_
                  refine fx_callV (M' := M_TA_copyEntry) (B' := (0, 0)) (vs := [.int (zI r8), .int (zI x2), .int (zI (h6.2.2.1 22 (r8.toNat)))]) (rest := []) (c1 := 0) (s1 := 0) (n := 139) d_TA_unpackCodes_136 ca_TA_unpackCodes_110 (at_16 (h := _) hS6) rfl rfl rfl ⟨by decide, by decide⟩ (Nat.le_of_ble_eq_true rfl) (Or.inl rfl) (fx_Mt.mono H fun v h22 hv => ?_)
                  obtain ⟨rfl, e23, H⟩ := hv
                  have hS22 := e23.trans hS6
                  show fx_V l M_TA_unpackCodes (0, 0) Q 0 0 139 [some (.ref 16), some (.int (zI x1)), some (.int (zI x2)), some (.int (zI x3)), some (.int (zI x4)), some (.int (zI r8)), some (.int (zI ((258 + x3) - 2))), some (.int (zI (h6.2.2.1 22 (r8.toNat))))] [] h22
                  refine fx_iload_n (i := 2) d_TA_unpackCodes_139 rfl rfl ?_
                  refine fx_iload d_TA_unpackCodes_140 rfl ?_
                  refine fx_iadd d_TA_unpackCodes_142 ?_
                  refine fx_istore_n (i := 2) (ls2 := [some (.ref 16), some (.int (zI x1)), some (.int (zI (x2 + (h6.2.2.1 22 (r8.toNat))))), some (.int (zI x3)), some (.int (zI x4)), some (.int (zI r8)), some (.int (zI ((258 + x3) - 2))), some (.int (zI (h6.2.2.1 22 (r8.toNat))))]) d_TA_unpackCodes_143 rfl (by decide) rfl ?_
                  refine fx_iload d_TA_unpackCodes_144 rfl ?_
                  refine fx_iconst d_TA_unpackCodes_146 ?_
                  refine fx_iadd d_TA_unpackCodes_147 ?_
                  refine fx_sipush (v := 658) d_TA_unpackCodes_148 rfl ?_
                  obtain ⟨hz24, H⟩ := H
                  refine fx_icmp_ge (t := 180) (n := 154) d_TA_unpackCodes_151 hz24 (show zR 658 by decide) (fun z25 => ?_) (fun z25 => ?_)
                  · replace H := H.1 z25
                    refine fx_iinc (v := x3 + 1) (ls2 := [some (.ref 16), some (.int (zI x1)), some (.int (zI (x2 + (h6.2.2.1 22 (r8.toNat))))), some (.int (zI (x3 + 1))), some (.int (zI x4)), some (.int (zI r8)), some (.int (zI ((258 + x3) - 2))), some (.int (zI (h6.2.2.1 22 (r8.toNat))))]) d_TA_unpackCodes_180 rfl rfl (by decide) rfl ?_
                    refine fx_iinc (v := x4 + 1) (ls2 := [some (.ref 16), some (.int (zI x1)), some (.int (zI (x2 + (h6.2.2.1 22 (r8.toNat))))), some (.int (zI (x3 + 1))), some (.int (zI (x4 + 1))), some (.int (zI r8)), some (.int (zI ((258 + x3) - 2))), some (.int (zI (h6.2.2.1 22 (r8.toNat))))]) d_TA_unpackCodes_183 rfl rfl (by decide) rfl ?_
                    refine fx_goto (n := 7) d_TA_unpackCodes_186 ?_
                    exact fx_fewer [some (.ref 16), some (.int (zI x1)), some (.int (zI (x2 + (h6.2.2.1 22 (r8.toNat))))), some (.int (zI (x3 + 1))), some (.int (zI (x4 + 1))), none, none, none] ⟨rfl, rfl, rfl, rfl, rfl, trivial⟩ H
                  · replace H := H.2 z25
                    refine fx_aload_n (i := 0) d_TA_unpackCodes_154 rfl rfl ?_
                    refine fx_getR (q := 21) d_TA_unpackCodes_155 lk_TA_32 (at_16 (h := _) hS22) rfl rfl ?_
                    refine fx_iload d_TA_unpackCodes_158 rfl ?_
                    refine fx_iconst d_TA_unpackCodes_160 ?_
                    refine fx_iadd d_TA_unpackCodes_161 ?_
                    refine fx_iload_n (i := 2) d_TA_unpackCodes_162 rfl rfl ?_
                    refine fx_iload d_TA_unpackCodes_163 rfl ?_
                    refine fx_isub d_TA_unpackCodes_165 ?_
                    obtain ⟨hn26, H⟩ := H
                    obtain ⟨hn27, H⟩ := H
                    refine fx_iast d_TA_unpackCodes_166 (at_21 (h := _) hS22) hn26 hn27 (by decide) ?_
                    refine fx_aload_n (i := 0) d_TA_unpackCodes_167 rfl rfl ?_
                    refine fx_getR (q := 22) d_TA_unpackCodes_168 lk_TA_35 (at_16 (h := _) hS22) rfl rfl ?_
                    refine fx_iload d_TA_unpackCodes_171 rfl ?_
                    refine fx_iconst d_TA_unpackCodes_173 ?_
                    refine fx_iadd d_TA_unpackCodes_174 ?_
                    refine fx_iload d_TA_unpackCodes_175 rfl ?_
                    refine fx_iconst d_TA_unpackCodes_177 ?_
                    refine fx_iadd d_TA_unpackCodes_178 ?_
                    obtain ⟨hn28, H⟩ := H
                    obtain ⟨hn29, H⟩ := H
                    refine fx_iast d_TA_unpackCodes_179 (at_22 (h := _) hS22) hn28 hn29 (by decide) ?_
                    refine fx_iinc (v := x3 + 1) (ls2 := [some (.ref 16), some (.int (zI x1)), some (.int (zI (x2 + (h6.2.2.1 22 (r8.toNat))))), some (.int (zI (x3 + 1))), some (.int (zI x4)), some (.int (zI r8)), some (.int (zI ((258 + x3) - 2))), some (.int (zI (h6.2.2.1 22 (r8.toNat))))]) d_TA_unpackCodes_180 rfl rfl (by decide) rfl ?_
                    refine fx_iinc (v := x4 + 1) (ls2 := [some (.ref 16), some (.int (zI x1)), some (.int (zI (x2 + (h6.2.2.1 22 (r8.toNat))))), some (.int (zI (x3 + 1))), some (.int (zI (x4 + 1))), some (.int (zI r8)), some (.int (zI ((258 + x3) - 2))), some (.int (zI (h6.2.2.1 22 (r8.toNat))))]) d_TA_unpackCodes_183 rfl rfl (by decide) rfl ?_
                    refine fx_goto (n := 7) d_TA_unpackCodes_186 ?_
                    exact fx_fewer [some (.ref 16), some (.int (zI x1)), some (.int (zI (x2 + (h6.2.2.1 22 (r8.toNat))))), some (.int (zI (x3 + 1))), some (.int (zI (x4 + 1))), none, none, none] ⟨rfl, rfl, rfl, rfl, rfl, trivial⟩ H
                · replace H := H.2 z21
                  refine fx_iconst d_TA_unpackCodes_128 ?_
                  exact fx_end (some (.int (zI 0))) ⟨⟨_, rfl, rfl⟩, d_TA_unpackCodes_129⟩ (Nat.le_refl _) (Nat.le_refl _) rfl H
              · replace H := H.2 z16
                refine fx_iconst d_TA_unpackCodes_107 ?_
                refine fx_goto (n := 118) d_TA_unpackCodes_108 ?_
                refine fx_istore (ls2 := [some (.ref 16), some (.int (zI x1)), some (.int (zI x2)), some (.int (zI x3)), some (.int (zI x4)), some (.int (zI r8)), some (.int (zI ((258 + x3) - 2))), some (.int (zI 1))]) d_TA_unpackCodes_118 (by decide) rfl ?_
                refine fx_iload_n (i := 2) d_TA_unpackCodes_120 rfl rfl ?_
                refine fx_iload d_TA_unpackCodes_121 rfl ?_
                refine fx_iadd d_TA_unpackCodes_123 ?_
                refine fx_iload_n (i := 1) d_TA_unpackCodes_124 rfl rfl ?_
                obtain ⟨hz30, H⟩ := H
                obtain ⟨hz31, H⟩ := H
                refine fx_icmp_le (t := 130) (n := 128) d_TA_unpackCodes_125 hz30 hz31 (fun z32 => ?_) (fun z32 => ?_)
                · replace H := H.1 z32
                  refine fx_aload_n (i := 0) d_TA_unpackCodes_130 rfl rfl ?_
                  refine fx_iload d_TA_unpackCodes_131 rfl ?_
                  refine fx_iload_n (i := 2) d_TA_unpackCodes_133 rfl rfl ?_
                  refine fx_iload d_TA_unpackCodes_134 rfl ?_
                  refine fx_callV (M' := M_TA_copyEntry) (B' := (0, 0)) (vs := [.int (zI r8), .int (zI x2), .int (zI 1)]) (rest := []) (c1 := 0) (s1 := 0) (n := 139) d_TA_unpackCodes_136 ca_TA_unpackCodes_110 (at_16 (h := _) hS6) rfl rfl rfl ⟨by decide, by decide⟩ (Nat.le_of_ble_eq_true rfl) (Or.inl rfl) (fx_Mt.mono H fun v h33 hv => ?_)
                  obtain ⟨rfl, e34, H⟩ := hv
                  have hS33 := e34.trans hS6
                  show fx_V l M_TA_unpackCodes (0, 0) Q 0 0 139 [some (.ref 16), some (.int (zI x1)), some (.int (zI x2)), some (.int (zI x3)), some (.int (zI x4)), some (.int (zI r8)), some (.int (zI ((258 + x3) - 2))), some (.int (zI 1))] [] h33
                  refine fx_iload_n (i := 2) d_TA_unpackCodes_139 rfl rfl ?_
                  refine fx_iload d_TA_unpackCodes_140 rfl ?_
                  refine fx_iadd d_TA_unpackCodes_142 ?_
                  refine fx_istore_n (i := 2) (ls2 := [some (.ref 16), some (.int (zI x1)), some (.int (zI (x2 + 1))), some (.int (zI x3)), some (.int (zI x4)), some (.int (zI r8)), some (.int (zI ((258 + x3) - 2))), some (.int (zI 1))]) d_TA_unpackCodes_143 rfl (by decide) rfl ?_
                  refine fx_iload d_TA_unpackCodes_144 rfl ?_
                  refine fx_iconst d_TA_unpackCodes_146 ?_
                  refine fx_iadd d_TA_unpackCodes_147 ?_
                  refine fx_sipush (v := 658) d_TA_unpackCodes_148 rfl ?_
                  obtain ⟨hz35, H⟩ := H
                  refine fx_icmp_ge (t := 180) (n := 154) d_TA_unpackCodes_151 hz35 (show zR 658 by decide) (fun z36 => ?_) (fun z36 => ?_)
                  · replace H := H.1 z36
                    refine fx_iinc (v := x3 + 1) (ls2 := [some (.ref 16), some (.int (zI x1)), some (.int (zI (x2 + 1))), some (.int (zI (x3 + 1))), some (.int (zI x4)), some (.int (zI r8)), some (.int (zI ((258 + x3) - 2))), some (.int (zI 1))]) d_TA_unpackCodes_180 rfl rfl (by decide) rfl ?_
                    refine fx_iinc (v := x4 + 1) (ls2 := [some (.ref 16), some (.int (zI x1)), some (.int (zI (x2 + 1))), some (.int (zI (x3 + 1))), some (.int (zI (x4 + 1))), some (.int (zI r8)), some (.int (zI ((258 + x3) - 2))), some (.int (zI 1))]) d_TA_unpackCodes_183 rfl rfl (by decide) rfl ?_
                    refine fx_goto (n := 7) d_TA_unpackCodes_186 ?_
                    exact fx_fewer [some (.ref 16), some (.int (zI x1)), some (.int (zI (x2 + 1))), some (.int (zI (x3 + 1))), some (.int (zI (x4 + 1))), none, none, none] ⟨rfl, rfl, rfl, rfl, rfl, trivial⟩ H
                  · replace H := H.2 z36
                    refine fx_aload_n (i := 0) d_TA_unpackCodes_154 rfl rfl ?_
                    refine fx_getR (q := 21) d_TA_unpackCodes_155 lk_TA_32 (at_16 (h := _) hS33) rfl rfl ?_
                    refine fx_iload d_TA_unpackCodes_158 rfl ?_
                    refine fx_iconst d_TA_unpackCodes_160 ?_
                    refine fx_iadd d_TA_unpackCodes_161 ?_
                    refine fx_iload_n (i := 2) d_TA_unpackCodes_162 rfl rfl ?_
                    refine fx_iload d_TA_unpackCodes_163 rfl ?_
                    refine fx_isub d_TA_unpackCodes_165 ?_
                    obtain ⟨hn37, H⟩ := H
                    obtain ⟨hn38, H⟩ := H
                    refine fx_iast d_TA_unpackCodes_166 (at_21 (h := _) hS33) hn37 hn38 (by decide) ?_
                    refine fx_aload_n (i := 0) d_TA_unpackCodes_167 rfl rfl ?_
                    refine fx_getR (q := 22) d_TA_unpackCodes_168 lk_TA_35 (at_16 (h := _) hS33) rfl rfl ?_
                    refine fx_iload d_TA_unpackCodes_171 rfl ?_
                    refine fx_iconst d_TA_unpackCodes_173 ?_
                    refine fx_iadd d_TA_unpackCodes_174 ?_
                    refine fx_iload d_TA_unpackCodes_175 rfl ?_
                    refine fx_iconst d_TA_unpackCodes_177 ?_
                    refine fx_iadd d_TA_unpackCodes_178 ?_
                    obtain ⟨hn39, H⟩ := H
                    obtain ⟨hn40, H⟩ := H
                    refine fx_iast d_TA_unpackCodes_179 (at_22 (h := _) hS33) hn39 hn40 (by decide) ?_
                    refine fx_iinc (v := x3 + 1) (ls2 := [some (.ref 16), some (.int (zI x1)), some (.int (zI (x2 + 1))), some (.int (zI (x3 + 1))), some (.int (zI x4)), some (.int (zI r8)), some (.int (zI ((258 + x3) - 2))), some (.int (zI 1))]) d_TA_unpackCodes_180 rfl rfl (by decide) rfl ?_
                    refine fx_iinc (v := x4 + 1) (ls2 := [some (.ref 16), some (.int (zI x1)), some (.int (zI (x2 + 1))), some (.int (zI (x3 + 1))), some (.int (zI (x4 + 1))), some (.int (zI r8)), some (.int (zI ((258 + x3) - 2))), some (.int (zI 1))]) d_TA_unpackCodes_183 rfl rfl (by decide) rfl ?_
                    refine fx_goto (n := 7) d_TA_unpackCodes_186 ?_
                    exact fx_fewer [some (.ref 16), some (.int (zI x1)), some (.int (zI (x2 + 1))), some (.int (zI (x3 + 1))), some (.int (zI (x4 + 1))), none, none, none] ⟨rfl, rfl, rfl, rfl, rfl, trivial⟩ H
                · replace H := H.2 z32
                  refine fx_iconst d_TA_unpackCodes_128 ?_
                  exact fx_end (some (.int (zI 0))) ⟨⟨_, rfl, rfl⟩, d_TA_unpackCodes_129⟩ (Nat.le_refl _) (Nat.le_refl _) rfl H
            · replace H := H.2 z15
              refine fx_iconst d_TA_unpackCodes_97 ?_
              exact fx_end (some (.int (zI 0))) ⟨⟨_, rfl, rfl⟩, d_TA_unpackCodes_98⟩ (Nat.le_refl _) (Nat.le_refl _) rfl H
          · replace H := H.2 z14
            refine fx_iload d_TA_unpackCodes_81 rfl ?_
            refine fx_sipush (v := 256) d_TA_unpackCodes_83 rfl ?_
            refine fx_icmp_gt (t := 97) (n := 89) d_TA_unpackCodes_86 hz9 (show zR 256 by decide) (fun z41 => ?_) (fun z41 => ?_)
            · replace H := H.1 z41
              refine fx_iconst d_TA_unpackCodes_97 ?_
              exact fx_end (some (.int (zI 0))) ⟨⟨_, rfl, rfl⟩, d_TA_unpackCodes_98⟩ (Nat.le_refl _) (Nat.le_refl _) rfl H
            · replace H := H.2 z41
              refine fx_iload d_TA_unpackCodes_89 rfl ?_
              refine fx_sipush (v := 658) d_TA_unpackCodes_91 rfl ?_
              refine fx_icmp_lt (t := 99) (n := 97) d_TA_unpackCodes_94 hz13 (show zR 658 by decide) (fun z42 => ?_) (fun z42 => ?_)
              · replace H := H.1 z42
                refine fx_iload d_TA_unpackCodes_99 rfl ?_
                refine fx_sipush (v := 256) d_TA_unpackCodes_101 rfl ?_
                refine fx_icmp_ge (t := 111) (n := 107) d_TA_unpackCodes_104 hz9 (show zR 256 by decide) (fun z43 => ?_) (fun z43 => ?_)
                · replace H := H.1 z43
                  refine fx_aload_n (i := 0) d_TA_unpackCodes_111 rfl rfl ?_
                  refine fx_getR (q := 22) d_TA_unpackCodes_112 lk_TA_35 (at_16 (h := _) hS6) rfl rfl ?_
                  refine fx_iload d_TA_unpackCodes_115 rfl ?_
                  obtain ⟨hn44, H⟩ := H
                  obtain ⟨hn45, H⟩ := H
                  refine fx_iald d_TA_unpackCodes_117 (at_22 (h := _) hS6) hn44 hn45 (by decide) ?_
                  refine fx_istore (ls2 := [some (.ref 16), some (.int (zI x1)), some (.int (zI x2)), some (.int (zI x3)), some (.int (zI x4)), some (.int (zI r8)), some (.int (zI ((258 + x3) - 2))), some (.int (zI (h6.2.2.1 22 (r8.toNat))))]) d_TA_unpackCodes_118 (by decide) rfl ?_
                  refine fx_iload_n (i := 2) d_TA_unpackCodes_120 rfl rfl ?_
                  refine fx_iload d_TA_unpackCodes_121 rfl ?_
                  refine fx_iadd d_TA_unpackCodes_123 ?_
                  refine fx_iload_n (i := 1) d_TA_unpackCodes_124 rfl rfl ?_
                  obtain ⟨hz46, H⟩ := H
                  obtain ⟨hz47, H⟩ := H
                  refine fx_icmp_le (t := 130) (n := 128) d_TA_unpackCodes_125 hz46 hz47 (fun z48 => ?_) (fun z48 => ?_)
                  · replace H := H.1 z48
                    refine fx_aload_n (i := 0) d_TA_unpackCodes_130 rfl rfl ?_
                    refine fx_iload d_TA_unpackCodes_131 rfl ?_
                    refine fx_iload_n (i := 2) d_TA_unpackCodes_133 rfl rfl ?_
                    refine fx_iload d_TA_unpackCodes_134 rfl ?_
                    refine fx_callV (M' := M_TA_copyEntry) (B' := (0, 0)) (vs := [.int (zI r8), .int (zI x2), .int (zI (h6.2.2.1 22 (r8.toNat)))]) (rest := []) (c1 := 0) (s1 := 0) (n := 139) d_TA_unpackCodes_136 ca_TA_unpackCodes_110 (at_16 (h := _) hS6) rfl rfl rfl ⟨by decide, by decide⟩ (Nat.le_of_ble_eq_true rfl) (Or.inl rfl) (fx_Mt.mono H fun v h49 hv => ?_)
                    obtain ⟨rfl, e50, H⟩ := hv
                    have hS49 := e50.trans hS6
                    show fx_V l M_TA_unpackCodes (0, 0) Q 0 0 139 [some (.ref 16), some (.int (zI x1)), some (.int (zI x2)), some (.int (zI x3)), some (.int (zI x4)), some (.int (zI r8)), some (.int (zI ((258 + x3) - 2))), some (.int (zI (h6.2.2.1 22 (r8.toNat))))] [] h49
                    refine fx_iload_n (i := 2) d_TA_unpackCodes_139 rfl rfl ?_
                    refine fx_iload d_TA_unpackCodes_140 rfl ?_
                    refine fx_iadd d_TA_unpackCodes_142 ?_
                    refine fx_istore_n (i := 2) (ls2 := [some (.ref 16), some (.int (zI x1)), some (.int (zI (x2 + (h6.2.2.1 22 (r8.toNat))))), some (.int (zI x3)), some (.int (zI x4)), some (.int (zI r8)), some (.int (zI ((258 + x3) - 2))), some (.int (zI (h6.2.2.1 22 (r8.toNat))))]) d_TA_unpackCodes_143 rfl (by decide) rfl ?_
                    refine fx_iload d_TA_unpackCodes_144 rfl ?_
                    refine fx_iconst d_TA_unpackCodes_146 ?_
                    refine fx_iadd d_TA_unpackCodes_147 ?_
                    refine fx_sipush (v := 658) d_TA_unpackCodes_148 rfl ?_
                    obtain ⟨hz51, H⟩ := H
                    refine fx_icmp_ge (t := 180) (n := 154) d_TA_unpackCodes_151 hz51 (show zR 658 by decide) (fun z52 => ?_) (fun z52 => ?_)
                    · replace H := H.1 z52
                      refine fx_iinc (v := x3 + 1) (ls2 := [some (.ref 16), some (.int (zI x1)), some (.int (zI (x2 + (h6.2.2.1 22 (r8.toNat))))), some (.int (zI (x3 + 1))), some (.int (zI x4)), some (.int (zI r8)), some (.int (zI ((258 + x3) - 2))), some (.int (zI (h6.2.2.1 22 (r8.toNat))))]) d_TA_unpackCodes_180 rfl rfl (by decide) rfl ?_
                      refine fx_iinc (v := x4 + 1) (ls2 := [some (.ref 16), some (.int (zI x1)), some (.int (zI (x2 + (h6.2.2.1 22 (r8.toNat))))), some (.int (zI (x3 + 1))), some (.int (zI (x4 + 1))), some (.int (zI r8)), some (.int (zI ((258 + x3) - 2))), some (.int (zI (h6.2.2.1 22 (r8.toNat))))]) d_TA_unpackCodes_183 rfl rfl (by decide) rfl ?_
                      refine fx_goto (n := 7) d_TA_unpackCodes_186 ?_
                      exact fx_fewer [some (.ref 16), some (.int (zI x1)), some (.int (zI (x2 + (h6.2.2.1 22 (r8.toNat))))), some (.int (zI (x3 + 1))), some (.int (zI (x4 + 1))), none, none, none] ⟨rfl, rfl, rfl, rfl, rfl, trivial⟩ H
                    · replace H := H.2 z52
                      refine fx_aload_n (i := 0) d_TA_unpackCodes_154 rfl rfl ?_
                      refine fx_getR (q := 21) d_TA_unpackCodes_155 lk_TA_32 (at_16 (h := _) hS49) rfl rfl ?_
                      refine fx_iload d_TA_unpackCodes_158 rfl ?_
                      refine fx_iconst d_TA_unpackCodes_160 ?_
                      refine fx_iadd d_TA_unpackCodes_161 ?_
                      refine fx_iload_n (i := 2) d_TA_unpackCodes_162 rfl rfl ?_
                      refine fx_iload d_TA_unpackCodes_163 rfl ?_
                      refine fx_isub d_TA_unpackCodes_165 ?_
                      obtain ⟨hn53, H⟩ := H
                      obtain ⟨hn54, H⟩ := H
                      refine fx_iast d_TA_unpackCodes_166 (at_21 (h := _) hS49) hn53 hn54 (by decide) ?_
                      refine fx_aload_n (i := 0) d_TA_unpackCodes_167 rfl rfl ?_
                      refine fx_getR (q := 22) d_TA_unpackCodes_168 lk_TA_35 (at_16 (h := _) hS49) rfl rfl ?_
                      refine fx_iload d_TA_unpackCodes_171 rfl ?_
                      refine fx_iconst d_TA_unpackCodes_173 ?_
                      refine fx_iadd d_TA_unpackCodes_174 ?_
                      refine fx_iload d_TA_unpackCodes_175 rfl ?_
                      refine fx_iconst d_TA_unpackCodes_177 ?_
                      refine fx_iadd d_TA_unpackCodes_178 ?_
                      obtain ⟨hn55, H⟩ := H
                      obtain ⟨hn56, H⟩ := H
                      refine fx_iast d_TA_unpackCodes_179 (at_22 (h := _) hS49) hn55 hn56 (by decide) ?_
                      refine fx_iinc (v := x3 + 1) (ls2 := [some (.ref 16), some (.int (zI x1)), some (.int (zI (x2 + (h6.2.2.1 22 (r8.toNat))))), some (.int (zI (x3 + 1))), some (.int (zI x4)), some (.int (zI r8)), some (.int (zI ((258 + x3) - 2))), some (.int (zI (h6.2.2.1 22 (r8.toNat))))]) d_TA_unpackCodes_180 rfl rfl (by decide) rfl ?_
                      refine fx_iinc (v := x4 + 1) (ls2 := [some (.ref 16), some (.int (zI x1)), some (.int (zI (x2 + (h6.2.2.1 22 (r8.toNat))))), some (.int (zI (x3 + 1))), some (.int (zI (x4 + 1))), some (.int (zI r8)), some (.int (zI ((258 + x3) - 2))), some (.int (zI (h6.2.2.1 22 (r8.toNat))))]) d_TA_unpackCodes_183 rfl rfl (by decide) rfl ?_
                      refine fx_goto (n := 7) d_TA_unpackCodes_186 ?_
                      exact fx_fewer [some (.ref 16), some (.int (zI x1)), some (.int (zI (x2 + (h6.2.2.1 22 (r8.toNat))))), some (.int (zI (x3 + 1))), some (.int (zI (x4 + 1))), none, none, none] ⟨rfl, rfl, rfl, rfl, rfl, trivial⟩ H
                  · replace H := H.2 z48
                    refine fx_iconst d_TA_unpackCodes_128 ?_
                    exact fx_end (some (.int (zI 0))) ⟨⟨_, rfl, rfl⟩, d_TA_unpackCodes_129⟩ (Nat.le_refl _) (Nat.le_refl _) rfl H
                · replace H := H.2 z43
                  refine fx_iconst d_TA_unpackCodes_107 ?_
                  refine fx_goto (n := 118) d_TA_unpackCodes_108 ?_
                  refine fx_istore (ls2 := [some (.ref 16), some (.int (zI x1)), some (.int (zI x2)), some (.int (zI x3)), some (.int (zI x4)), some (.int (zI r8)), some (.int (zI ((258 + x3) - 2))), some (.int (zI 1))]) d_TA_unpackCodes_118 (by decide) rfl ?_
                  refine fx_iload_n (i := 2) d_TA_unpackCodes_120 rfl rfl ?_
                  refine fx_iload d_TA_unpackCodes_121 rfl ?_
                  refine fx_iadd d_TA_unpackCodes_123 ?_
                  refine fx_iload_n (i := 1) d_TA_unpackCodes_124 rfl rfl ?_
                  obtain ⟨hz57, H⟩ := H
                  obtain ⟨hz58, H⟩ := H
                  refine fx_icmp_le (t := 130) (n := 128) d_TA_unpackCodes_125 hz57 hz58 (fun z59 => ?_) (fun z59 => ?_)
                  · replace H := H.1 z59
                    refine fx_aload_n (i := 0) d_TA_unpackCodes_130 rfl rfl ?_
                    refine fx_iload d_TA_unpackCodes_131 rfl ?_
                    refine fx_iload_n (i := 2) d_TA_unpackCodes_133 rfl rfl ?_
                    refine fx_iload d_TA_unpackCodes_134 rfl ?_
                    refine fx_callV (M' := M_TA_copyEntry) (B' := (0, 0)) (vs := [.int (zI r8), .int (zI x2), .int (zI 1)]) (rest := []) (c1 := 0) (s1 := 0) (n := 139) d_TA_unpackCodes_136 ca_TA_unpackCodes_110 (at_16 (h := _) hS6) rfl rfl rfl ⟨by decide, by decide⟩ (Nat.le_of_ble_eq_true rfl) (Or.inl rfl) (fx_Mt.mono H fun v h60 hv => ?_)
                    obtain ⟨rfl, e61, H⟩ := hv
                    have hS60 := e61.trans hS6
                    show fx_V l M_TA_unpackCodes (0, 0) Q 0 0 139 [some (.ref 16), some (.int (zI x1)), some (.int (zI x2)), some (.int (zI x3)), some (.int (zI x4)), some (.int (zI r8)), some (.int (zI ((258 + x3) - 2))), some (.int (zI 1))] [] h60
                    refine fx_iload_n (i := 2) d_TA_unpackCodes_139 rfl rfl ?_
                    refine fx_iload d_TA_unpackCodes_140 rfl ?_
                    refine fx_iadd d_TA_unpackCodes_142 ?_
                    refine fx_istore_n (i := 2) (ls2 := [some (.ref 16), some (.int (zI x1)), some (.int (zI (x2 + 1))), some (.int (zI x3)), some (.int (zI x4)), some (.int (zI r8)), some (.int (zI ((258 + x3) - 2))), some (.int (zI 1))]) d_TA_unpackCodes_143 rfl (by decide) rfl ?_
                    refine fx_iload d_TA_unpackCodes_144 rfl ?_
                    refine fx_iconst d_TA_unpackCodes_146 ?_
                    refine fx_iadd d_TA_unpackCodes_147 ?_
                    refine fx_sipush (v := 658) d_TA_unpackCodes_148 rfl ?_
                    obtain ⟨hz62, H⟩ := H
                    refine fx_icmp_ge (t := 180) (n := 154) d_TA_unpackCodes_151 hz62 (show zR 658 by decide) (fun z63 => ?_) (fun z63 => ?_)
                    · replace H := H.1 z63
                      refine fx_iinc (v := x3 + 1) (ls2 := [some (.ref 16), some (.int (zI x1)), some (.int (zI (x2 + 1))), some (.int (zI (x3 + 1))), some (.int (zI x4)), some (.int (zI r8)), some (.int (zI ((258 + x3) - 2))), some (.int (zI 1))]) d_TA_unpackCodes_180 rfl rfl (by decide) rfl ?_
                      refine fx_iinc (v := x4 + 1) (ls2 := [some (.ref 16), some (.int (zI x1)), some (.int (zI (x2 + 1))), some (.int (zI (x3 + 1))), some (.int (zI (x4 + 1))), some (.int (zI r8)), some (.int (zI ((258 + x3) - 2))), some (.int (zI 1))]) d_TA_unpackCodes_183 rfl rfl (by decide) rfl ?_
                      refine fx_goto (n := 7) d_TA_unpackCodes_186 ?_
                      exact fx_fewer [some (.ref 16), some (.int (zI x1)), some (.int (zI (x2 + 1))), some (.int (zI (x3 + 1))), some (.int (zI (x4 + 1))), none, none, none] ⟨rfl, rfl, rfl, rfl, rfl, trivial⟩ H
                    · replace H := H.2 z63
                      refine fx_aload_n (i := 0) d_TA_unpackCodes_154 rfl rfl ?_
                      refine fx_getR (q := 21) d_TA_unpackCodes_155 lk_TA_32 (at_16 (h := _) hS60) rfl rfl ?_
                      refine fx_iload d_TA_unpackCodes_158 rfl ?_
                      refine fx_iconst d_TA_unpackCodes_160 ?_
                      refine fx_iadd d_TA_unpackCodes_161 ?_
                      refine fx_iload_n (i := 2) d_TA_unpackCodes_162 rfl rfl ?_
                      refine fx_iload d_TA_unpackCodes_163 rfl ?_
                      refine fx_isub d_TA_unpackCodes_165 ?_
                      obtain ⟨hn64, H⟩ := H
                      obtain ⟨hn65, H⟩ := H
                      refine fx_iast d_TA_unpackCodes_166 (at_21 (h := _) hS60) hn64 hn65 (by decide) ?_
                      refine fx_aload_n (i := 0) d_TA_unpackCodes_167 rfl rfl ?_
                      refine fx_getR (q := 22) d_TA_unpackCodes_168 lk_TA_35 (at_16 (h := _) hS60) rfl rfl ?_
                      refine fx_iload d_TA_unpackCodes_171 rfl ?_
                      refine fx_iconst d_TA_unpackCodes_173 ?_
                      refine fx_iadd d_TA_unpackCodes_174 ?_
                      refine fx_iload d_TA_unpackCodes_175 rfl ?_
                      refine fx_iconst d_TA_unpackCodes_177 ?_
                      refine fx_iadd d_TA_unpackCodes_178 ?_
                      obtain ⟨hn66, H⟩ := H
                      obtain ⟨hn67, H⟩ := H
                      refine fx_iast d_TA_unpackCodes_179 (at_22 (h := _) hS60) hn66 hn67 (by decide) ?_
                      refine fx_iinc (v := x3 + 1) (ls2 := [some (.ref 16), some (.int (zI x1)), some (.int (zI (x2 + 1))), some (.int (zI (x3 + 1))), some (.int (zI x4)), some (.int (zI r8)), some (.int (zI ((258 + x3) - 2))), some (.int (zI 1))]) d_TA_unpackCodes_180 rfl rfl (by decide) rfl ?_
                      refine fx_iinc (v := x4 + 1) (ls2 := [some (.ref 16), some (.int (zI x1)), some (.int (zI (x2 + 1))), some (.int (zI (x3 + 1))), some (.int (zI (x4 + 1))), some (.int (zI r8)), some (.int (zI ((258 + x3) - 2))), some (.int (zI 1))]) d_TA_unpackCodes_183 rfl rfl (by decide) rfl ?_
                      refine fx_goto (n := 7) d_TA_unpackCodes_186 ?_
                      exact fx_fewer [some (.ref 16), some (.int (zI x1)), some (.int (zI (x2 + 1))), some (.int (zI (x3 + 1))), some (.int (zI (x4 + 1))), none, none, none] ⟨rfl, rfl, rfl, rfl, rfl, trivial⟩ H
                  · replace H := H.2 z59
                    refine fx_iconst d_TA_unpackCodes_128 ?_
                    exact fx_end (some (.int (zI 0))) ⟨⟨_, rfl, rfl⟩, d_TA_unpackCodes_129⟩ (Nat.le_refl _) (Nat.le_refl _) rfl H
              · replace H := H.2 z42
                refine fx_iconst d_TA_unpackCodes_97 ?_
                exact fx_end (some (.int (zI 0))) ⟨⟨_, rfl, rfl⟩, d_TA_unpackCodes_98⟩ (Nat.le_refl _) (Nat.le_refl _) rfl H
      · replace H := H.2 z11
        refine fx_iconst d_TA_unpackCodes_55 ?_
        refine fx_istore_n (i := 3) (ls2 := [some (.ref 16), some (.int (zI x1)), some (.int (zI x2)), some (.int (zI 1)), some (.int (zI x4)), some (.int (zI r8)), none, none]) d_TA_unpackCodes_56 rfl (by decide) rfl ?_
        refine fx_goto (n := 183) d_TA_unpackCodes_57 ?_
        refine fx_iinc (v := x4 + 1) (ls2 := [some (.ref 16), some (.int (zI x1)), some (.int (zI x2)), some (.int (zI 1)), some (.int (zI (x4 + 1))), some (.int (zI r8)), none, none]) d_TA_unpackCodes_183 rfl rfl (by decide) rfl ?_
        refine fx_goto (n := 7) d_TA_unpackCodes_186 ?_
        exact fx_fewer [some (.ref 16), some (.int (zI x1)), some (.int (zI x2)), some (.int (zI 1)), some (.int (zI (x4 + 1))), none, none, none] ⟨rfl, rfl, rfl, rfl, rfl, trivial⟩ H
    · replace H := H.2 z10
      refine fx_iload_n (i := 2) d_TA_unpackCodes_36 rfl rfl ?_
      refine fx_iload_n (i := 1) d_TA_unpackCodes_37 rfl rfl ?_
      obtain ⟨hz68, H⟩ := H
      obtain ⟨hz69, H⟩ := H
      refine fx_icmp_ne (t := 45) (n := 41) d_TA_unpackCodes_38 hz68 hz69 (fun z70 => ?_) (fun z70 => ?_)
      · replace H := H.1 z70
        refine fx_iconst d_TA_unpackCodes_45 ?_
        exact fx_end (some (.int (zI 0))) ⟨⟨_, rfl, rfl⟩, d_TA_unpackCodes_46⟩ (Nat.le_refl _) (Nat.le_refl _) rfl H
      · replace H := H.2 z70
        refine fx_iconst d_TA_unpackCodes_41 ?_
        refine fx_goto (n := 46) d_TA_unpackCodes_42 ?_
        exact fx_end (some (.int (zI 1))) ⟨⟨_, rfl, rfl⟩, d_TA_unpackCodes_46⟩ (Nat.le_refl _) (Nat.le_refl _) rfl H

set_option maxRecDepth 100000 in
set_option maxHeartbeats 4000000 in
theorem e_TA_copyEntry {l : Launch} {Q : Option Value → fx_H → Prop} {h : fx_H}  {c : Int} {x : Int} {n : Int}  {a : Nat → Nat} {pp dd : Nat} (hS : h.1 = fx_S0 a pp dd) 
    (H : (fx_V l M_TA_copyEntry (0, 0) Q 0 0 3 [some (.ref 16), some (.int (zI c)), some (.int (zI x)), some (.int (zI n)), some (.int (zI 0))] [] h)) :
    fx_Mt l M_TA_copyEntry (0, 0) [.ref 16, .int (zI c), .int (zI x), .int (zI n)] h Q := by
  refine fx_entry (ls := [some (.ref 16), some (.int (zI c)), some (.int (zI x)), some (.int (zI n)), none]) (by decide) (Nat.le_of_ble_eq_true rfl) rfl ?_
  refine fx_iconst d_TA_copyEntry_0 ?_
  refine fx_istore (ls2 := [some (.ref 16), some (.int (zI c)), some (.int (zI x)), some (.int (zI n)), some (.int (zI 0))]) d_TA_copyEntry_1 (by decide) rfl ?_
  exact H

set_option maxRecDepth 100000 in
set_option maxHeartbeats 4000000 in
theorem w_TA_copyEntry_3 {l : Launch} {Q : Option Value → fx_H → Prop} {h : fx_H}  {x1 : Int} {x2 : Int} {x3 : Int} {x4 : Int}  {a : Nat → Nat} {pp dd : Nat} (hS : h.1 = fx_S0 a pp dd) 
    (H : zR x4 ∧ zR x3 ∧ ((x3 ≤ x4 → Q none h) ∧ (¬ (x3 ≤ x4) → zR x1 ∧ ((256 ≤ x1 → 0 ≤ x1 ∧ x1 < 658 ∧ 0 ≤ ((h.2.2.1 21 (x1.toNat)) + x4) ∧ ((h.2.2.1 21 (x1.toNat)) + x4) < 400 ∧ 0 ≤ (x2 + x4) ∧ (x2 + x4) < 400 ∧ (fx_V l M_TA_copyEntry (0, 0) Q 0 0 3 [some (.ref 16), some (.int (zI x1)), some (.int (zI x2)), some (.int (zI x3)), some (.int (zI (x4 + 1)))] [] (fx_uA h 17 ((x2 + x4).toNat) (h.2.2.1 17 (((h.2.2.1 21 (x1.toNat)) + x4).toNat))))) ∧ (¬ (256 ≤ x1) → 0 ≤ (x2 + x4) ∧ (x2 + x4) < 400 ∧ (fx_V l M_TA_copyEntry (0, 0) Q 0 0 3 [some (.ref 16), some (.int (zI x1)), some (.int (zI x2)), some (.int (zI x3)), some (.int (zI (x4 + 1)))] [] (fx_uA h 17 ((x2 + x4).toNat) x1))))))) :
    fx_V l M_TA_copyEntry (0, 0) Q 0 0 3 [some (.ref 16), some (.int (zI x1)), some (.int (zI x2)), some (.int (zI x3)), some (.int (zI x4))] [] h := by
  refine fx_iload d_TA_copyEntry_3 rfl ?_
  refine fx_iload_n (i := 3) d_TA_copyEntry_5 rfl rfl ?_
  obtain ⟨hz1, H⟩ := H
  obtain ⟨hz2, H⟩ := H
  refine fx_icmp_ge (t := 49) (n := 9) d_TA_copyEntry_6 hz1 hz2 (fun z3 => ?_) (fun z3 => ?_)
  · replace H := H.1 z3
    exact fx_end none ⟨rfl, d_TA_copyEntry_49⟩ (Nat.le_refl _) (Nat.le_refl _) rfl H
  · replace H := H.2 z3
    refine fx_aload_n (i := 0) d_TA_copyEntry_9 rfl rfl ?_
    refine fx_getR (q := 17) d_TA_copyEntry_10 lk_TA_19 (at_16 (h := _) hS) rfl rfl ?_
    refine fx_iload_n (i := 2) d_TA_copyEntry_13 rfl rfl ?_
    refine fx_iload d_TA_copyEntry_14 rfl ?_
    refine fx_iadd d_TA_copyEntry_16 ?_
    refine fx_iload_n (i := 1) d_TA_copyEntry_17 rfl rfl ?_
    refine fx_sipush (v := 256) d_TA_copyEntry_18 rfl ?_
    obtain ⟨hz4, H⟩ := H
    refine fx_icmp_ge (t := 28) (n := 24) d_TA_copyEntry_21 hz4 (show zR 256 by decide) (fun z5 => ?_) (fun z5 => ?_)
    · replace H := H.1 z5
      refine fx_aload_n (i := 0) d_TA_copyEntry_28 rfl rfl ?_
      refine fx_getR (q := 17) d_TA_copyEntry_29 lk_TA_19 (at_16 (h := _) hS) rfl rfl ?_
      refine fx_aload_n (i := 0) d_TA_copyEntry_32 rfl rfl ?_
      refine fx_getR (q := 21) d_TA_copyEntry_33 lk_TA_32 (at_16 (h := _) hS) rfl rfl ?_
      refine fx_iload_n (i := 1) d_TA_copyEntry_36 rfl rfl ?_
      obtain ⟨hn6, H⟩ := H
      obtain ⟨hn7, H⟩ := H
      refine fx_iald d_TA_copyEntry_37 (at_21 (h := _) hS) hn6 hn7 (by decide) ?_
      refine fx_iload d_TA_copyEntry_38 rfl ?_
      refine fx_iadd d_TA_copyEntry_40 ?_
      obtain ⟨hn8, H⟩ := H
      obtain ⟨hn9, H⟩ := H
      refine fx_iald d_TA_copyEntry_41 (at_17 (h := _) hS) hn8 hn9 (by decide) ?_
      obtain ⟨hn10, H⟩ := H
      obtain ⟨hn11, H⟩ := H
      refine fx_iast d_TA_copyEntry_42 (at_17 (h := _) hS) hn10 hn11 (by decide) ?_
      refine fx_iinc (v := x4 + 1) (ls2 := [some (.ref 16), some (.int (zI x1)), some (.int (zI x2)), some (.int (zI x3)), some (.int (zI (x4 + 1)))]) d_TA_copyEntry_43 rfl rfl (by decide) rfl ?_
      refine fx_goto (n := 3) d_TA_copyEntry_46 ?_
      exact H
    · replace H := H.2 z5
      refine fx_iload_n (i := 1) d_TA_copyEntry_24 rfl rfl ?_
      refine fx_goto (n := 42) d_TA_copyEntry_25 ?_
      obtain ⟨hn12, H⟩ := H
      obtain ⟨hn13, H⟩ := H
      refine fx_iast d_TA_copyEntry_42 (at_17 (h := _) hS) hn12 hn13 (by decide) ?_
      refine fx_iinc (v := x4 + 1) (ls2 := [some (.ref 16), some (.int (zI x1)), some (.int (zI x2)), some (.int (zI x3)), some (.int (zI (x4 + 1)))]) d_TA_copyEntry_43 rfl rfl (by decide) rfl ?_
      refine fx_goto (n := 3) d_TA_copyEntry_46 ?_
      exact H

set_option maxRecDepth 100000 in
set_option maxHeartbeats 4000000 in
theorem e_TA_paintRows {l : Launch} {Q : Option Value → fx_H → Prop} {h : fx_H} {p : Nat} {x : Int} {y : Int} {hp_a : Nat} {hx_a : Nat} {a : Nat → Nat} {pp dd : Nat} (hS : h.1 = fx_S0 a pp dd) (hp : h.1[p]? = some (hp_a, .inl (10, [some (p + 1), none, none, none]))) (hx : h.1[(p + 1)]? = some (hx_a, .inr (0, 960)))
    (H : (fx_V l M_TA_paintRows (0, 0) Q 0 0 6 [some (.ref 16), some (.ref p), none, some (.int (zI y)), some (.int (zI 0)), some (.int (zI x)), none] [] h)) :
    fx_Mt l M_TA_paintRows (0, 0) [.ref 16, .ref p, .int (zI x), .int (zI y)] h Q := by
  refine fx_entry (ls := [some (.ref 16), some (.ref p), some (.int (zI x)), some (.int (zI y)), none, none, none]) (by decide) (Nat.le_of_ble_eq_true rfl) rfl ?_
  refine fx_iconst d_TA_paintRows_0 ?_
  refine fx_istore (ls2 := [some (.ref 16), some (.ref p), some (.int (zI x)), some (.int (zI y)), some (.int (zI 0)), none, none]) d_TA_paintRows_1 (by decide) rfl ?_
  refine fx_iload_n (i := 2) d_TA_paintRows_3 rfl rfl ?_
  refine fx_istore (ls2 := [some (.ref 16), some (.ref p), some (.int (zI x)), some (.int (zI y)), some (.int (zI 0)), some (.int (zI x)), none]) d_TA_paintRows_4 (by decide) rfl ?_
  exact fx_fewer [some (.ref 16), some (.ref p), none, some (.int (zI y)), some (.int (zI 0)), some (.int (zI x)), none] ⟨rfl, rfl, rfl, rfl, rfl, trivial⟩ H

set_option maxRecDepth 100000 in
set_option maxHeartbeats 4000000 in
theorem w_TA_paintRows_6 {l : Launch} {Q : Option Value → fx_H → Prop} {h : fx_H} {p : Nat} {x3 : Int} {x4 : Int} {x5 : Int} {hp_a : Nat} {hx_a : Nat} {a : Nat → Nat} {pp dd : Nat} (hS : h.1 = fx_S0 a pp dd) (hp : h.1[p]? = some (hp_a, .inl (10, [some (p + 1), none, none, none]))) (hx : h.1[(p + 1)]? = some (hx_a, .inr (0, 960)))
    (H : zR x5 ∧ zR x3 ∧ ((x3 ≤ x5 → Q (some (.int (zI 1))) h) ∧ (¬ (x3 ≤ x5) → (fx_V l M_TA_paintRows (0, 0) Q 0 0 15 [some (.ref 16), some (.ref p), none, some (.int (zI x3)), some (.int (zI x4)), some (.int (zI x5)), some (.int (zI 0))] [] h)))) :
    fx_V l M_TA_paintRows (0, 0) Q 0 0 6 [some (.ref 16), some (.ref p), none, some (.int (zI x3)), some (.int (zI x4)), some (.int (zI x5)), none] [] h := by
  refine fx_iload d_TA_paintRows_6 rfl ?_
  refine fx_iload_n (i := 3) d_TA_paintRows_8 rfl rfl ?_
  obtain ⟨hz1, H⟩ := H
  obtain ⟨hz2, H⟩ := H
  refine fx_icmp_ge (t := 69) (n := 12) d_TA_paintRows_9 hz1 hz2 (fun z3 => ?_) (fun z3 => ?_)
  · replace H := H.1 z3
    refine fx_iconst d_TA_paintRows_69 ?_
    exact fx_end (some (.int (zI 1))) ⟨⟨_, rfl, rfl⟩, d_TA_paintRows_70⟩ (Nat.le_refl _) (Nat.le_refl _) rfl H
  · replace H := H.2 z3
    refine fx_iconst d_TA_paintRows_12 ?_
    refine fx_istore (ls2 := [some (.ref 16), some (.ref p), none, some (.int (zI x3)), some (.int (zI x4)), some (.int (zI x5)), some (.int (zI 0))]) d_TA_paintRows_13 (by decide) rfl ?_
    exact H

set_option maxRecDepth 100000 in
set_option maxHeartbeats 4000000 in
theorem w_TA_paintRows_15 {l : Launch} {Q : Option Value → fx_H → Prop} {h : fx_H} {p : Nat} {x3 : Int} {x4 : Int} {x5 : Int} {x6 : Int} {hp_a : Nat} {hx_a : Nat} {a : Nat → Nat} {pp dd : Nat} (hS : h.1 = fx_S0 a pp dd) (hp : h.1[p]? = some (hp_a, .inl (10, [some (p + 1), none, none, none]))) (hx : h.1[(p + 1)]? = some (hx_a, .inr (0, 960)))
    (H : fx_Mt l M_PI_rowBytes (0, 0) [.ref p] h (fun v h1 => ∃ r3 : Int, v = some (.int (zI r3)) ∧ h1.1 = h.1 ∧ zR x6 ∧ zR r3 ∧ ((r3 ≤ x6 → (fx_V l M_TA_paintRows (0, 0) Q 0 0 6 [some (.ref 16), some (.ref p), none, some (.int (zI x3)), some (.int (zI x4)), some (.int (zI (x5 + 1))), none] [] h1)) ∧ (¬ (r3 ≤ x6) → zR x4 ∧ ((400 ≤ x4 → (fx_V l M_TA_paintRows (0, 0) Q 0 0 6 [some (.ref 16), some (.ref p), none, some (.int (zI x3)), some (.int (zI x4)), some (.int (zI (x5 + 1))), none] [] h1)) ∧ (¬ (400 ≤ x4) → 0 ≤ x4 ∧ x4 < 400 ∧ fx_Mt l M_PI_paintRowByte (0, 0) [.ref p, .int (zI x5), .int (zI x6), .int (zI (h1.2.2.1 17 (x4.toNat)))] h1 (fun v h11 => ∃ r13 : Int, v = some (.int (zI r13)) ∧ h11.1 = h1.1 ∧ zR r13 ∧ ((¬ r13 = 0 → (fx_V l M_TA_paintRows (0, 0) Q 0 0 15 [some (.ref 16), some (.ref p), none, some (.int (zI x3)), some (.int (zI (x4 + 1))), some (.int (zI x5)), some (.int (zI (x6 + 1)))] [] h11)) ∧ (r13 = 0 → Q (some (.int (zI 0))) h11))))))))) :
    fx_V l M_TA_paintRows (0, 0) Q 0 0 15 [some (.ref 16), some (.ref p), none, some (.int (zI x3)), some (.int (zI x4)), some (.int (zI x5)), some (.int (zI x6))] [] h := by
  refine fx_iload d_TA_paintRows_15 rfl ?_
  refine fx_aload_n (i := 1) d_TA_paintRows_17 rfl rfl ?_
  refine fx_callV (M' := M_PI_rowBytes) (B' := (0, 0)) (vs := []) (rest := [.int (zI x6)]) (c1 := 0) (s1 := 0) (n := 21) d_TA_paintRows_18 ca_TA_paintRows_79 hp rfl rfl rfl ⟨by decide, by decide⟩ (Nat.le_of_ble_eq_true rfl) (Or.inl rfl) (fx_Mt.mono H fun v h1 hv => ?_)
  obtain ⟨r3, rfl, e2, H⟩ := hv
  have hS1 := e2.trans hS
  have hp1 : h1.1[p]? = some (hp_a, .inl (10, [some (p + 1), none, none, none])) := by rw [e2]; exact hp
  have hx1 : h1.1[(p + 1)]? = some (hx_a, .inr (0, 960)) := by rw [e2]; exact hx
  show fx_V l M_TA_paintRows (0, 0) Q 0 0 21 [some (.ref 16), some (.ref p), none, some (.int (zI x3)), some (.int (zI x4)), some (.int (zI x5)), some (.int (zI x6))] [.int (zI r3), .int (zI x6)] h1
  obtain ⟨hz4, H⟩ := H
  obtain ⟨hz5, H⟩ := H
  refine fx_icmp_ge (t := 63) (n := 24) d_TA_paintRows_21 hz4 hz5 (fun z6 => ?_) (fun z6 => ?_)
  · replace H := H.1 z6
    refine fx_iinc (v := x5 + 1) (ls2 := [some (.ref 16), some (.ref p), none, some (.int (zI x3)), some (.int (zI x4)), some (.int (zI (x5 + 1))), some (.int (zI x6))]) d_TA_paintRows_63 rfl rfl (by decide) rfl ?_
    refine fx_goto (n := 6) d_TA_paintRows_66 ?_
    exact fx_fewer [some (.ref 16), some (.ref p), none, some (.int (zI x3)), some (.int (zI x4)), some (.int (zI (x5 + 1))), none] ⟨rfl, rfl, rfl, rfl, rfl, trivial⟩ H
  · replace H := H.2 z6
    refine fx_iload d_TA_paintRows_24 rfl ?_
    refine fx_aload_n (i := 0) d_TA_paintRows_26 rfl rfl ?_
    refine fx_getR (q := 17) d_TA_paintRows_27 lk_TA_19 (at_16 (h := _) hS1) rfl rfl ?_
    refine fx_alen (v := 400) d_TA_paintRows_30 (at_17 (h := _) hS1) rfl ?_
    obtain ⟨hz7, H⟩ := H
    refine fx_icmp_ge (t := 63) (n := 34) d_TA_paintRows_31 hz7 (show zR 400 by decide) (fun z8 => ?_) (fun z8 => ?_)
    · replace H := H.1 z8
      refine fx_iinc (v := x5 + 1) (ls2 := [some (.ref 16), some (.ref p), none, some (.int (zI x3)), some (.int (zI x4)), some (.int (zI (x5 + 1))), some (.int (zI x6))]) d_TA_paintRows_63 rfl rfl (by decide) rfl ?_
      refine fx_goto (n := 6) d_TA_paintRows_66 ?_
      exact fx_fewer [some (.ref 16), some (.ref p), none, some (.int (zI x3)), some (.int (zI x4)), some (.int (zI (x5 + 1))), none] ⟨rfl, rfl, rfl, rfl, rfl, trivial⟩ H
    · replace H := H.2 z8
      refine fx_aload_n (i := 1) d_TA_paintRows_34 rfl rfl ?_
      refine fx_iload d_TA_paintRows_35 rfl ?_
      refine fx_iload d_TA_paintRows_37 rfl ?_
      refine fx_aload_n (i := 0) d_TA_paintRows_39 rfl rfl ?_
      refine fx_getR (q := 17) d_TA_paintRows_40 lk_TA_19 (at_16 (h := _) hS1) rfl rfl ?_
      refine fx_iload d_TA_paintRows_43 rfl ?_
      obtain ⟨hn9, H⟩ := H
      obtain ⟨hn10, H⟩ := H
      refine fx_iald d_TA_paintRows_45 (at_17 (h := _) hS1) hn9 hn10 (by decide) ?_
      refine fx_callV (M' := M_PI_paintRowByte) (B' := (0, 0)) (vs := [.int (zI x5), .int (zI x6), .int (zI (h1.2.2.1 17 (x4.toNat)))]) (rest := []) (c1 := 0) (s1 := 0) (n := 49) d_TA_paintRows_46 ca_TA_paintRows_114 hp1 rfl rfl rfl ⟨by decide, by decide⟩ (Nat.le_of_ble_eq_true rfl) (Or.inl rfl) (fx_Mt.mono H fun v h11 hv => ?_)
      obtain ⟨r13, rfl, e12, H⟩ := hv
      have hS11 := e12.trans hS1
      have hp11 : h11.1[p]? = some (hp_a, .inl (10, [some (p + 1), none, none, none])) := by rw [e12]; exact hp1
      have hx11 : h11.1[(p + 1)]? = some (hx_a, .inr (0, 960)) := by rw [e12]; exact hx1
      show fx_V l M_TA_paintRows (0, 0) Q 0 0 49 [some (.ref 16), some (.ref p), none, some (.int (zI x3)), some (.int (zI x4)), some (.int (zI x5)), some (.int (zI x6))] [.int (zI r13)] h11
      obtain ⟨hz14, H⟩ := H
      refine fx_if_ne (t := 54) (n := 52) d_TA_paintRows_49 hz14 (fun z15 => ?_) (fun z15 => ?_)
      · replace H := H.1 z15
        refine fx_iinc (v := x4 + 1) (ls2 := [some (.ref 16), some (.ref p), none, some (.int (zI x3)), some (.int (zI (x4 + 1))), some (.int (zI x5)), some (.int (zI x6))]) d_TA_paintRows_54 rfl rfl (by decide) rfl ?_
        refine fx_iinc (v := x6 + 1) (ls2 := [some (.ref 16), some (.ref p), none, some (.int (zI x3)), some (.int (zI (x4 + 1))), some (.int (zI x5)), some (.int (zI (x6 + 1)))]) d_TA_paintRows_57 rfl rfl (by decide) rfl ?_
        refine fx_goto (n := 15) d_TA_paintRows_60 ?_
        exact H
      · replace H := H.2 z15
        refine fx_iconst d_TA_paintRows_52 ?_
        exact fx_end (some (.int (zI 0))) ⟨⟨_, rfl, rfl⟩, d_TA_paintRows_53⟩ (Nat.le_refl _) (Nat.le_refl _) rfl H

