/-! what is owed of the numbers, by program (wip/printvc.py) -/
set_option maxRecDepth 100000 in
set_option maxHeartbeats 4000000 in
theorem e_FX_isMark {l : Launch} {Q : Option Value → fx_H → Prop} {h : fx_H} {f : Nat}  {hf_a : Nat} {a : Nat → Nat} {pp dd : Nat} (hS : h.1 = fx_S0 a pp dd) (hf : h.1[f]? = some (hf_a, .inl (9, [none, some 4, some 1, some 3])))
    (H : fx_Mt l M_BR_number (0, 0) [.ref 3, .int (zI 12)] h (fun v h1 => ∃ r3 : Int, v = some (.int (zI r3)) ∧ h1.1 = h.1 ∧ zR r3 ∧ ((¬ r3 = 1 → Q (some (.int (zI 0))) h1) ∧ (r3 = 1 → Q (some (.int (zI 1))) h1)))) :
    fx_Mt l M_FX_isMark (0, 0) [.ref f] h Q := by
  refine fx_entry (ls := [some (.ref f)]) (by decide) (Nat.le_of_ble_eq_true rfl) rfl ?_
  refine fx_aload_n (i := 0) d_FX_isMark_0 rfl rfl ?_
  refine fx_getR (q := 3) d_FX_isMark_1 lk_FX_21 hf rfl rfl ?_
  refine fx_bipush (v := 12) d_FX_isMark_4 rfl ?_
  refine fx_callV (M' := M_BR_number) (B' := (0, 0)) (vs := [.int (zI 12)]) (rest := []) (c1 := 0) (s1 := 0) (n := 9) d_FX_isMark_6 ca_FX_isMark_68 (at_3 (h := _) hS) rfl rfl rfl ⟨by decide, by decide⟩ (Nat.le_of_ble_eq_true rfl) (Or.inl rfl) (fx_Mt.mono H fun v h1 hv => ?_)
  obtain ⟨r3, rfl, e2, H⟩ := hv
  have hS1 := e2.trans hS
  have hf1 : h1.1[f]? = some (hf_a, .inl (9, [none, some 4, some 1, some 3])) := by rw [e2]; exact hf
  show fx_V l M_FX_isMark (0, 0) Q 0 0 9 [some (.ref f)] [.int (zI r3)] h1
  refine fx_iconst d_FX_isMark_9 ?_
  obtain ⟨hz4, H⟩ := H
  refine fx_icmp_ne (t := 17) (n := 13) d_FX_isMark_10 hz4 (show zR 1 by decide) (fun z5 => ?_) (fun z5 => ?_)
  · replace H := H.1 z5
    refine fx_iconst d_FX_isMark_17 ?_
    exact fx_end (some (.int (zI 0))) ⟨⟨_, rfl, rfl⟩, d_FX_isMark_18⟩ (Nat.le_refl _) (Nat.le_refl _) rfl H
  · replace H := H.2 z5
    refine fx_iconst d_FX_isMark_13 ?_
    refine fx_goto (n := 18) d_FX_isMark_14 ?_
    exact fx_end (some (.int (zI 1))) ⟨⟨_, rfl, rfl⟩, d_FX_isMark_18⟩ (Nat.le_refl _) (Nat.le_refl _) rfl H

set_option maxRecDepth 100000 in
set_option maxHeartbeats 4000000 in
theorem e_FX_markedLine {l : Launch} {Q : Option Value → fx_H → Prop} {h : fx_H} {f : Nat}  {hf_a : Nat} {a : Nat → Nat} {pp dd : Nat} (hS : h.1 = fx_S0 a pp dd) (hf : h.1[f]? = some (hf_a, .inl (9, [none, some 4, some 1, some 3])))
    (H : fx_Mt l M_FX_isMark (0, 0) [.ref f] h (fun v h1 => ∃ r3 : Int, v = some (.int (zI r3)) ∧ h1.1 = h.1 ∧ zR r3 ∧ ((r3 = 0 → Q (some (.int (zI (-1)))) h1) ∧ (¬ (r3 = 0) → fx_Mt l M_BR_bit (0, 0) [.ref 3] h1 (fun v h6 => ∃ r8 : Int, v = some (.int (zI r8)) ∧ h6.1 = h1.1 ∧ Q (some (.int (zI r8))) h6))))) :
    fx_Mt l M_FX_markedLine (0, 0) [.ref f] h Q := by
  refine fx_entry (ls := [some (.ref f)]) (by decide) (Nat.le_of_ble_eq_true rfl) rfl ?_
  refine fx_aload_n (i := 0) d_FX_markedLine_0 rfl rfl ?_
  refine fx_callV (M' := M_FX_isMark) (B' := (0, 0)) (vs := []) (rest := []) (c1 := 0) (s1 := 0) (n := 4) d_FX_markedLine_1 ca_FX_markedLine_56 hf rfl rfl rfl ⟨by decide, by decide⟩ (Nat.le_of_ble_eq_true rfl) (Or.inl rfl) (fx_Mt.mono H fun v h1 hv => ?_)
  obtain ⟨r3, rfl, e2, H⟩ := hv
  have hS1 := e2.trans hS
  have hf1 : h1.1[f]? = some (hf_a, .inl (9, [none, some 4, some 1, some 3])) := by rw [e2]; exact hf
  show fx_V l M_FX_markedLine (0, 0) Q 0 0 4 [some (.ref f)] [.int (zI r3)] h1
  obtain ⟨hz4, H⟩ := H
  refine fx_if_eq (t := 17) (n := 7) d_FX_markedLine_4 hz4 (fun z5 => ?_) (fun z5 => ?_)
  · replace H := H.1 z5
    refine fx_iconst d_FX_markedLine_17 ?_
    exact fx_end (some (.int (zI (-1)))) ⟨⟨_, rfl, rfl⟩, d_FX_markedLine_18⟩ (Nat.le_refl _) (Nat.le_refl _) rfl H
  · replace H := H.2 z5
    refine fx_aload_n (i := 0) d_FX_markedLine_7 rfl rfl ?_
    refine fx_getR (q := 3) d_FX_markedLine_8 lk_FX_21 hf1 rfl rfl ?_
    refine fx_callV (M' := M_BR_bit) (B' := (0, 0)) (vs := []) (rest := []) (c1 := 0) (s1 := 0) (n := 14) d_FX_markedLine_11 ca_FX_markedLine_65 (at_3 (h := _) hS1) rfl rfl rfl ⟨by decide, by decide⟩ (Nat.le_of_ble_eq_true rfl) (Or.inl rfl) (fx_Mt.mono H fun v h6 hv => ?_)
    obtain ⟨r8, rfl, e7, H⟩ := hv
    have hS6 := e7.trans hS1
    have hf6 : h6.1[f]? = some (hf_a, .inl (9, [none, some 4, some 1, some 3])) := by rw [e7]; exact hf1
    show fx_V l M_FX_markedLine (0, 0) Q 0 0 14 [some (.ref f)] [.int (zI r8)] h6
    refine fx_goto (n := 18) d_FX_markedLine_14 ?_
    exact fx_end (some (.int (zI r8))) ⟨⟨_, rfl, rfl⟩, d_FX_markedLine_18⟩ (Nat.le_refl _) (Nat.le_refl _) rfl H

set_option maxRecDepth 100000 in
set_option maxHeartbeats 4000000 in
theorem e_FX_pack {l : Launch} {Q : Option Value → fx_H → Prop} {h : fx_H} {f : Nat} {p : Nat} {x : Int} {y : Int} {hf_a : Nat} {hp_a : Nat} {hx_a : Nat} {a : Nat → Nat} {pp dd : Nat} (hS : h.1 = fx_S0 a pp dd) (hf : h.1[f]? = some (hf_a, .inl (9, [none, some 4, some 1, some 3]))) (hp : h.1[p]? = some (hp_a, .inl (10, [some (p + 1), none, none, none]))) (hx : h.1[(p + 1)]? = some (hx_a, .inr (0, 960)))
    (H : (fx_V l M_FX_pack (0, 0) Q 0 0 3 [some (.ref f), some (.ref p), some (.int (zI x)), some (.int (zI y)), some (.int (zI x)), none] [] h)) :
    fx_Mt l M_FX_pack (0, 0) [.ref f, .ref p, .int (zI x), .int (zI y)] h Q := by
  refine fx_entry (ls := [some (.ref f), some (.ref p), some (.int (zI x)), some (.int (zI y)), none, none]) (by decide) (Nat.le_of_ble_eq_true rfl) rfl ?_
  refine fx_iload_n (i := 2) d_FX_pack_0 rfl rfl ?_
  refine fx_istore (ls2 := [some (.ref f), some (.ref p), some (.int (zI x)), some (.int (zI y)), some (.int (zI x)), none]) d_FX_pack_1 (by decide) rfl ?_
  exact H

set_option maxRecDepth 100000 in
set_option maxHeartbeats 4000000 in
theorem w_FX_pack_3 {l : Launch} {Q : Option Value → fx_H → Prop} {h : fx_H} {f : Nat} {p : Nat} {x2 : Int} {x3 : Int} {x4 : Int} {hf_a : Nat} {hp_a : Nat} {hx_a : Nat} {a : Nat → Nat} {pp dd : Nat} (hS : h.1 = fx_S0 a pp dd) (hf : h.1[f]? = some (hf_a, .inl (9, [none, some 4, some 1, some 3]))) (hp : h.1[p]? = some (hp_a, .inl (10, [some (p + 1), none, none, none]))) (hx : h.1[(p + 1)]? = some (hx_a, .inr (0, 960)))
    (H : zR x4 ∧ zR x3 ∧ ((x3 ≤ x4 → zR (h.2.1 f 0) ∧ ((¬ (h.2.1 f 0) = 0 → fx_Mt l M_BY_endBits (0, 0) [.ref 1] h (fun v h6 => v = none ∧ h6.1 = h.1 ∧ Q none h6)) ∧ ((h.2.1 f 0) = 0 → fx_Mt l M_BY_appendBits (0, 0) [.ref 1, .int (zI 1), .int (zI 12)] h (fun v h8 => v = none ∧ h8.1 = h.1 ∧ fx_Mt l M_BY_appendBits (0, 0) [.ref 1, .int (zI 1), .int (zI 12)] h8 (fun v h10 => v = none ∧ h10.1 = h8.1 ∧ fx_Mt l M_BY_endBits (0, 0) [.ref 1] h10 (fun v h12 => v = none ∧ h12.1 = h10.1 ∧ Q none h12)))))) ∧ (¬ (x3 ≤ x4) → zR (h.2.1 f 0) ∧ (((h.2.1 f 0) = 0 → (((h.2.1 f 0) = 0 → zR x2 ∧ ((¬ x4 = x2 → fx_Mt l M_LI_packByAnother (0, 0) [.ref 4, .ref p, .int (zI x4), .int (zI (x4 - 1))] h (fun v h19 => v = none ∧ h19.1 = h.1 ∧ (fx_V l M_FX_pack (0, 0) Q 0 0 3 [some (.ref f), some (.ref p), some (.int (zI x2)), some (.int (zI x3)), some (.int (zI (x4 + 1))), none] [] h19))) ∧ (x4 = x2 → fx_Mt l M_LI_packByAnother (0, 0) [.ref 4, .ref p, .int (zI x4), .int (zI (-1))] h (fun v h21 => v = none ∧ h21.1 = h.1 ∧ (fx_V l M_FX_pack (0, 0) Q 0 0 3 [some (.ref f), some (.ref p), some (.int (zI x2)), some (.int (zI x3)), some (.int (zI (x4 + 1))), none] [] h21))))) ∧ (¬ ((h.2.1 f 0) = 0) → fx_Mt l M_BY_appendBits (0, 0) [.ref 1, .int (zI 1), .int (zI 12)] h (fun v h23 => v = none ∧ h23.1 = h.1 ∧ fx_Mt l M_BY_appendBits (0, 0) [.ref 1, .int (zI 0), .int (zI 1)] h23 (fun v h25 => v = none ∧ h25.1 = h23.1 ∧ zR x2 ∧ ((¬ x4 = x2 → fx_Mt l M_LI_packByAnother (0, 0) [.ref 4, .ref p, .int (zI x4), .int (zI (x4 - 1))] h25 (fun v h29 => v = none ∧ h29.1 = h25.1 ∧ (fx_V l M_FX_pack (0, 0) Q 0 0 3 [some (.ref f), some (.ref p), some (.int (zI x2)), some (.int (zI x3)), some (.int (zI (x4 + 1))), none] [] h29))) ∧ (x4 = x2 → fx_Mt l M_LI_packByAnother (0, 0) [.ref 4, .ref p, .int (zI x4), .int (zI (-1))] h25 (fun v h31 => v = none ∧ h31.1 = h25.1 ∧ (fx_V l M_FX_pack (0, 0) Q 0 0 3 [some (.ref f), some (.ref p), some (.int (zI x2)), some (.int (zI x3)), some (.int (zI (x4 + 1))), none] [] h31))))))))) ∧ (¬ ((h.2.1 f 0) = 0) → 0 ≤ (x4 - x2) ∧ zR (x4 - x2) ∧ zR ((x4 - x2) % 4) ∧ ((¬ ((x4 - x2) % 4) = 0 → (((h.2.1 f 0) = 0 → zR x2 ∧ ((¬ x4 = x2 → fx_Mt l M_LI_packByAnother (0, 0) [.ref 4, .ref p, .int (zI x4), .int (zI (x4 - 1))] h (fun v h40 => v = none ∧ h40.1 = h.1 ∧ (fx_V l M_FX_pack (0, 0) Q 0 0 3 [some (.ref f), some (.ref p), some (.int (zI x2)), some (.int (zI x3)), some (.int (zI (x4 + 1))), none] [] h40))) ∧ (x4 = x2 → fx_Mt l M_LI_packByAnother (0, 0) [.ref 4, .ref p, .int (zI x4), .int (zI (-1))] h (fun v h42 => v = none ∧ h42.1 = h.1 ∧ (fx_V l M_FX_pack (0, 0) Q 0 0 3 [some (.ref f), some (.ref p), some (.int (zI x2)), some (.int (zI x3)), some (.int (zI (x4 + 1))), none] [] h42))))) ∧ (¬ ((h.2.1 f 0) = 0) → fx_Mt l M_BY_appendBits (0, 0) [.ref 1, .int (zI 1), .int (zI 12)] h (fun v h44 => v = none ∧ h44.1 = h.1 ∧ fx_Mt l M_BY_appendBits (0, 0) [.ref 1, .int (zI 0), .int (zI 1)] h44 (fun v h46 => v = none ∧ h46.1 = h44.1 ∧ zR x2 ∧ ((¬ x4 = x2 → fx_Mt l M_LI_packByAnother (0, 0) [.ref 4, .ref p, .int (zI x4), .int (zI (x4 - 1))] h46 (fun v h50 => v = none ∧ h50.1 = h46.1 ∧ (fx_V l M_FX_pack (0, 0) Q 0 0 3 [some (.ref f), some (.ref p), some (.int (zI x2)), some (.int (zI x3)), some (.int (zI (x4 + 1))), none] [] h50))) ∧ (x4 = x2 → fx_Mt l M_LI_packByAnother (0, 0) [.ref 4, .ref p, .int (zI x4), .int (zI (-1))] h46 (fun v h52 => v = none ∧ h52.1 = h46.1 ∧ (fx_V l M_FX_pack (0, 0) Q 0 0 3 [some (.ref f), some (.ref p), some (.int (zI x2)), some (.int (zI x3)), some (.int (zI (x4 + 1))), none] [] h52))))))))) ∧ (((x4 - x2) % 4) = 0 → (((h.2.1 f 0) = 0 → fx_Mt l M_LI_packByItself (0, 0) [.ref 4, .ref p, .int (zI x4)] h (fun v h55 => v = none ∧ h55.1 = h.1 ∧ (fx_V l M_FX_pack (0, 0) Q 0 0 3 [some (.ref f), some (.ref p), some (.int (zI x2)), some (.int (zI x3)), some (.int (zI (x4 + 1))), none] [] h55))) ∧ (¬ ((h.2.1 f 0) = 0) → fx_Mt l M_BY_appendBits (0, 0) [.ref 1, .int (zI 1), .int (zI 12)] h (fun v h57 => v = none ∧ h57.1 = h.1 ∧ fx_Mt l M_BY_appendBits (0, 0) [.ref 1, .int (zI 1), .int (zI 1)] h57 (fun v h59 => v = none ∧ h59.1 = h57.1 ∧ fx_Mt l M_LI_packByItself (0, 0) [.ref 4, .ref p, .int (zI x4)] h59 (fun v h61 => v = none ∧ h61.1 = h59.1 ∧ (fx_V l M_FX_pack (0, 0) Q 0 0 3 [some (.ref f), some (.ref p), some (.int (zI x2)), some (.int (zI x3)), some (.int (zI (x4 + 1))), none] [] h61))))))))))))) :
    fx_V l M_FX_pack (0, 0) Q 0 0 3 [some (.ref f), some (.ref p), some (.int (zI x2)), some (.int (zI x3)), some (.int (zI x4)), none] [] h := by
  refine fx_iload d_FX_pack_3 rfl ?_
  refine fx_iload_n (i := 3) d_FX_pack_5 rfl rfl ?_
  obtain ⟨hz1, H⟩ := H
  obtain ⟨hz2, H⟩ := H
  refine fx_icmp_ge (t := 115) (n := 9) d_FX_pack_6 hz1 hz2 (fun z3 => ?_) (fun z3 => ?_)
  · replace H := H.1 z3
    refine fx_aload_n (i := 0) d_FX_pack_115 rfl rfl ?_
    refine fx_getI d_FX_pack_116 lk_FX_7 hf rfl ?_
    obtain ⟨hz4, H⟩ := H
    refine fx_if_ne (t := 142) (n := 122) d_FX_pack_119 hz4 (fun z5 => ?_) (fun z5 => ?_)
    · replace H := H.1 z5
      refine fx_aload_n (i := 0) d_FX_pack_142 rfl rfl ?_
      refine fx_getR (q := 1) d_FX_pack_143 lk_FX_17 hf rfl rfl ?_
      refine fx_callV (M' := M_BY_endBits) (B' := (0, 0)) (vs := []) (rest := []) (c1 := 0) (s1 := 0) (n := 149) d_FX_pack_146 ca_FX_pack_41 (at_1 (h := _) hS) rfl rfl rfl ⟨by decide, by decide⟩ (Nat.le_of_ble_eq_true rfl) (Or.inl rfl) (fx_Mt.mono H fun v h6 hv => ?_)
      obtain ⟨rfl, e7, H⟩ := hv
      have hS6 := e7.trans hS
      have hf6 : h6.1[f]? = some (hf_a, .inl (9, [none, some 4, some 1, some 3])) := by rw [e7]; exact hf
      have hp6 : h6.1[p]? = some (hp_a, .inl (10, [some (p + 1), none, none, none])) := by rw [e7]; exact hp
      have hx6 : h6.1[(p + 1)]? = some (hx_a, .inr (0, 960)) := by rw [e7]; exact hx
      show fx_V l M_FX_pack (0, 0) Q 0 0 149 [some (.ref f), some (.ref p), some (.int (zI x2)), some (.int (zI x3)), some (.int (zI x4)), none] [] h6
      exact fx_end none ⟨rfl, d_FX_pack_149⟩ (Nat.le_refl _) (Nat.le_refl _) rfl H
    · replace H := H.2 z5
      refine fx_aload_n (i := 0) d_FX_pack_122 rfl rfl ?_
      refine fx_getR (q := 1) d_FX_pack_123 lk_FX_17 hf rfl rfl ?_
      refine fx_iconst d_FX_pack_126 ?_
      refine fx_bipush (v := 12) d_FX_pack_127 rfl ?_
      refine fx_callV (M' := M_BY_appendBits) (B' := (0, 0)) (vs := [.int (zI 1), .int (zI 12)]) (rest := []) (c1 := 0) (s1 := 0) (n := 132) d_FX_pack_129 ca_FX_pack_25 (at_1 (h := _) hS) rfl rfl rfl ⟨by decide, by decide⟩ (Nat.le_of_ble_eq_true rfl) (Or.inl rfl) (fx_Mt.mono H fun v h8 hv => ?_)
      obtain ⟨rfl, e9, H⟩ := hv
      have hS8 := e9.trans hS
      have hf8 : h8.1[f]? = some (hf_a, .inl (9, [none, some 4, some 1, some 3])) := by rw [e9]; exact hf
      have hp8 : h8.1[p]? = some (hp_a, .inl (10, [some (p + 1), none, none, none])) := by rw [e9]; exact hp
      have hx8 : h8.1[(p + 1)]? = some (hx_a, .inr (0, 960)) := by rw [e9]; exact hx
      show fx_V l M_FX_pack (0, 0) Q 0 0 132 [some (.ref f), some (.ref p), some (.int (zI x2)), some (.int (zI x3)), some (.int (zI x4)), none] [] h8
      refine fx_aload_n (i := 0) d_FX_pack_132 rfl rfl ?_
      refine fx_getR (q := 1) d_FX_pack_133 lk_FX_17 hf8 rfl rfl ?_
      refine fx_iconst d_FX_pack_136 ?_
      refine fx_bipush (v := 12) d_FX_pack_137 rfl ?_
      refine fx_callV (M' := M_BY_appendBits) (B' := (0, 0)) (vs := [.int (zI 1), .int (zI 12)]) (rest := []) (c1 := 0) (s1 := 0) (n := 142) d_FX_pack_139 ca_FX_pack_25 (at_1 (h := _) hS8) rfl rfl rfl ⟨by decide, by decide⟩ (Nat.le_of_ble_eq_true rfl) (Or.inl rfl) (fx_Mt.mono H fun v h10 hv => ?_)
      obtain ⟨rfl, e11, H⟩ := hv
      have hS10 := e11.trans hS8
      have hf10 : h10.1[f]? = some (hf_a, .inl (9, [none, some 4, some 1, some 3])) := by rw [e11]; exact hf8
      have hp10 : h10.1[p]? = some (hp_a, .inl (10, [some (p + 1), none, none, none])) := by rw [e11]; exact hp8
      have hx10 : h10.1[(p + 1)]? = some (hx_a, .inr (0, 960)) := by rw [e11]; exact hx8
      show fx_V l M_FX_pack (0, 0) Q 0 0 142 [some (.ref f), some (.ref p), some (.int (zI x2)), some (.int (zI x3)), some (.int (zI x4)), none] [] h10
      refine fx_aload_n (i := 0) d_FX_pack_142 rfl rfl ?_
      refine fx_getR (q := 1) d_FX_pack_143 lk_FX_17 hf10 rfl rfl ?_
      refine fx_callV (M' := M_BY_endBits) (B' := (0, 0)) (vs := []) (rest := []) (c1 := 0) (s1 := 0) (n := 149) d_FX_pack_146 ca_FX_pack_41 (at_1 (h := _) hS10) rfl rfl rfl ⟨by decide, by decide⟩ (Nat.le_of_ble_eq_true rfl) (Or.inl rfl) (fx_Mt.mono H fun v h12 hv => ?_)
      obtain ⟨rfl, e13, H⟩ := hv
      have hS12 := e13.trans hS10
      have hf12 : h12.1[f]? = some (hf_a, .inl (9, [none, some 4, some 1, some 3])) := by rw [e13]; exact hf10
      have hp12 : h12.1[p]? = some (hp_a, .inl (10, [some (p + 1), none, none, none])) := by rw [e13]; exact hp10
      have hx12 : h12.1[(p + 1)]? = some (hx_a, .inr (0, 960)) := by rw [e13]; exact hx10
      show fx_V l M_FX_pack (0, 0) Q 0 0 149 [some (.ref f), some (.ref p), some (.int (zI x2)), some (.int (zI x3)), some (.int (zI x4)), none] [] h12
      exact fx_end none ⟨rfl, d_FX_pack_149⟩ (Nat.le_refl _) (Nat.le_refl _) rfl H
  · replace H := H.2 z3
    refine fx_aload_n (i := 0) d_FX_pack_9 rfl rfl ?_
    refine fx_getI d_FX_pack_10 lk_FX_7 hf rfl ?_
    obtain ⟨hz14, H⟩ := H
    refine fx_if_eq (t := 29) (n := 16) d_FX_pack_13 hz14 (fun z15 => ?_) (fun z15 => ?_)
    · replace H := H.1 z15
      refine fx_iconst d_FX_pack_29 ?_
      refine fx_istore (ls2 := [some (.ref f), some (.ref p), some (.int (zI x2)), some (.int (zI x3)), some (.int (zI x4)), some (.int (zI 0))]) d_FX_pack_30 (by decide) rfl ?_
      refine fx_aload_n (i := 0) d_FX_pack_32 rfl rfl ?_
      refine fx_getI d_FX_pack_33 lk_FX_7 hf rfl ?_
      refine fx_if_eq (t := 67) (n := 39) d_FX_pack_36 hz14 (fun z16 => ?_) (fun z16 => ?_)
      · replace H := H.1 z16
        refine fx_iload d_FX_pack_67 rfl ?_
        refine fx_if_eq (t := 85) (n := 72) d_FX_pack_69 (show zR 0 by decide) (fun z => ?_) (fun z => absurd (show ¬ ((0 : Int) = (0 : Int)) from z) (by decide))
        refine fx_aload_n (i := 0) d_FX_pack_85 rfl rfl ?_
        refine fx_getR (q := 4) d_FX_pack_86 lk_FX_13 hf rfl rfl ?_
        refine fx_aload_n (i := 1) d_FX_pack_89 rfl rfl ?_
        refine fx_iload d_FX_pack_90 rfl ?_
        refine fx_iload d_FX_pack_92 rfl ?_
        refine fx_iload_n (i := 2) d_FX_pack_94 rfl rfl ?_
        obtain ⟨hz17, H⟩ := H
        refine fx_icmp_ne (t := 102) (n := 98) d_FX_pack_95 hz1 hz17 (fun z18 => ?_) (fun z18 => ?_)
        · replace H := H.1 z18
          refine fx_iload d_FX_pack_102 rfl ?_
          refine fx_iconst d_FX_pack_104 ?_
          refine fx_isub d_FX_pack_105 ?_
          refine fx_callV (M' := M_LI_packByAnother) (B' := (0, 0)) (vs := [.ref p, .int (zI x4), .int (zI (x4 - 1))]) (rest := []) (c1 := 0) (s1 := 0) (n := 109) d_FX_pack_106 ca_FX_pack_37 (at_4 (h := _) hS) rfl rfl rfl ⟨by decide, by decide⟩ (Nat.le_of_ble_eq_true rfl) (Or.inl rfl) (fx_Mt.mono H fun v h19 hv => ?_)
          obtain ⟨rfl, e20, H⟩ := hv
          have hS19 := e20.trans hS
          have hf19 : h19.1[f]? = some (hf_a, .inl (9, [none, some 4, some 1, some 3])) := by rw [e20]; exact hf
          have hp19 : h19.1[p]? = some (hp_a, .inl (10, [some (p + 1), none, none, none])) := by rw [e20]; exact hp
          have hx19 : h19.1[(p + 1)]? = some (hx_a, .inr (0, 960)) := by rw [e20]; exact hx
          show fx_V l M_FX_pack (0, 0) Q 0 0 109 [some (.ref f), some (.ref p), some (.int (zI x2)), some (.int (zI x3)), some (.int (zI x4)), some (.int (zI 0))] [] h19
          refine fx_iinc (v := x4 + 1) (ls2 := [some (.ref f), some (.ref p), some (.int (zI x2)), some (.int (zI x3)), some (.int (zI (x4 + 1))), some (.int (zI 0))]) d_FX_pack_109 rfl rfl (by decide) rfl ?_
          refine fx_goto (n := 3) d_FX_pack_112 ?_
          exact fx_fewer [some (.ref f), some (.ref p), some (.int (zI x2)), some (.int (zI x3)), some (.int (zI (x4 + 1))), none] ⟨rfl, rfl, rfl, rfl, rfl, trivial⟩ H
        · replace H := H.2 z18
          refine fx_iconst d_FX_pack_98 ?_
          refine fx_goto (n := 106) d_FX_pack_99 ?_
          refine fx_callV (M' := M_LI_packByAnother) (B' := (0, 0)) (vs := [.ref p, .int (zI x4), .int (zI (-1))]) (rest := []) (c1 := 0) (s1 := 0) (n := 109) d_FX_pack_106 ca_FX_pack_37 (at_4 (h := _) hS) rfl rfl rfl ⟨by decide, by decide⟩ (Nat.le_of_ble_eq_true rfl) (Or.inl rfl) (fx_Mt.mono H fun v h21 hv => ?_)
          obtain ⟨rfl, e22, H⟩ := hv
          have hS21 := e22.trans hS
          have hf21 : h21.1[f]? = some (hf_a, .inl (9, [none, some 4, some 1, some 3])) := by rw [e22]; exact hf
          have hp21 : h21.1[p]? = some (hp_a, .inl (10, [some (p + 1), none, none, none])) := by rw [e22]; exact hp
          have hx21 : h21.1[(p + 1)]? = some (hx_a, .inr (0, 960)) := by rw [e22]; exact hx
          show fx_V l M_FX_pack (0, 0) Q 0 0 109 [some (.ref f), some (.ref p), some (.int (zI x2)), some (.int (zI x3)), some (.int (zI x4)), some (.int (zI 0))] [] h21
          refine fx_iinc (v := x4 + 1) (ls2 := [some (.ref f), some (.ref p), some (.int (zI x2)), some (.int (zI x3)), some (.int (zI (x4 + 1))), some (.int (zI 0))]) d_FX_pack_109 rfl rfl (by decide) rfl ?_
          refine fx_goto (n := 3) d_FX_pack_112 ?_
          exact fx_fewer [some (.ref f), some (.ref p), some (.int (zI x2)), some (.int (zI x3)), some (.int (zI (x4 + 1))), none] ⟨rfl, rfl, rfl, rfl, rfl, trivial⟩ H
      · replace H := H.2 z16
        refine fx_aload_n (i := 0) d_FX_pack_39 rfl rfl ?_
        refine fx_getR (q := 1) d_FX_pack_40 lk_FX_17 hf rfl rfl ?_
        refine fx_iconst d_FX_pack_43 ?_
        refine fx_bipush (v := 12) d_FX_pack_44 rfl ?_
        refine fx_callV (M' := M_BY_appendBits) (B' := (0, 0)) (vs := [.int (zI 1), .int (zI 12)]) (rest := []) (c1 := 0) (s1 := 0) (n := 49) d_FX_pack_46 ca_FX_pack_25 (at_1 (h := _) hS) rfl rfl rfl ⟨by decide, by decide⟩ (Nat.le_of_ble_eq_true rfl) (Or.inl rfl) (fx_Mt.mono H fun v h23 hv => ?_)
        obtain ⟨rfl, e24, H⟩ := hv
        have hS23 := e24.trans hS
        have hf23 : h23.1[f]? = some (hf_a, .inl (9, [none, some 4, some 1, some 3])) := by rw [e24]; exact hf
        have hp23 : h23.1[p]? = some (hp_a, .inl (10, [some (p + 1), none, none, none])) := by rw [e24]; exact hp
        have hx23 : h23.1[(p + 1)]? = some (hx_a, .inr (0, 960)) := by rw [e24]; exact hx
        show fx_V l M_FX_pack (0, 0) Q 0 0 49 [some (.ref f), some (.ref p), some (.int (zI x2)), some (.int (zI x3)), some (.int (zI x4)), some (.int (zI 0))] [] h23
        refine fx_aload_n (i := 0) d_FX_pack_49 rfl rfl ?_
        refine fx_getR (q := 1) d_FX_pack_50 lk_FX_17 hf23 rfl rfl ?_
        refine fx_iload d_FX_pack_53 rfl ?_
        refine fx_if_eq (t := 62) (n := 58) d_FX_pack_55 (show zR 0 by decide) (fun z => ?_) (fun z => absurd (show ¬ ((0 : Int) = (0 : Int)) from z) (by decide))
        refine fx_iconst d_FX_pack_62 ?_
        refine fx_iconst d_FX_pack_63 ?_
        refine fx_callV (M' := M_BY_appendBits) (B' := (0, 0)) (vs := [.int (zI 0), .int (zI 1)]) (rest := []) (c1 := 0) (s1 := 0) (n := 67) d_FX_pack_64 ca_FX_pack_25 (at_1 (h := _) hS23) rfl rfl rfl ⟨by decide, by decide⟩ (Nat.le_of_ble_eq_true rfl) (Or.inl rfl) (fx_Mt.mono H fun v h25 hv => ?_)
        obtain ⟨rfl, e26, H⟩ := hv
        have hS25 := e26.trans hS23
        have hf25 : h25.1[f]? = some (hf_a, .inl (9, [none, some 4, some 1, some 3])) := by rw [e26]; exact hf23
        have hp25 : h25.1[p]? = some (hp_a, .inl (10, [some (p + 1), none, none, none])) := by rw [e26]; exact hp23
        have hx25 : h25.1[(p + 1)]? = some (hx_a, .inr (0, 960)) := by rw [e26]; exact hx23
        show fx_V l M_FX_pack (0, 0) Q 0 0 67 [some (.ref f), some (.ref p), some (.int (zI x2)), some (.int (zI x3)), some (.int (zI x4)), some (.int (zI 0))] [] h25
        refine fx_iload d_FX_pack_67 rfl ?_
        refine fx_if_eq (t := 85) (n := 72) d_FX_pack_69 (show zR 0 by decide) (fun z => ?_) (fun z => absurd (show ¬ ((0 : Int) = (0 : Int)) from z) (by decide))
        refine fx_aload_n (i := 0) d_FX_pack_85 rfl rfl ?_
        refine fx_getR (q := 4) d_FX_pack_86 lk_FX_13 hf25 rfl rfl ?_
        refine fx_aload_n (i := 1) d_FX_pack_89 rfl rfl ?_
        refine fx_iload d_FX_pack_90 rfl ?_
        refine fx_iload d_FX_pack_92 rfl ?_
        refine fx_iload_n (i := 2) d_FX_pack_94 rfl rfl ?_
        obtain ⟨hz27, H⟩ := H
        refine fx_icmp_ne (t := 102) (n := 98) d_FX_pack_95 hz1 hz27 (fun z28 => ?_) (fun z28 => ?_)
        · replace H := H.1 z28
          refine fx_iload d_FX_pack_102 rfl ?_
          refine fx_iconst d_FX_pack_104 ?_
          refine fx_isub d_FX_pack_105 ?_
          refine fx_callV (M' := M_LI_packByAnother) (B' := (0, 0)) (vs := [.ref p, .int (zI x4), .int (zI (x4 - 1))]) (rest := []) (c1 := 0) (s1 := 0) (n := 109) d_FX_pack_106 ca_FX_pack_37 (at_4 (h := _) hS25) rfl rfl rfl ⟨by decide, by decide⟩ (Nat.le_of_ble_eq_true rfl) (Or.inl rfl) (fx_Mt.mono H fun v h29 hv => ?_)
          obtain ⟨rfl, e30, H⟩ := hv
          have hS29 := e30.trans hS25
          have hf29 : h29.1[f]? = some (hf_a, .inl (9, [none, some 4, some 1, some 3])) := by rw [e30]; exact hf25
          have hp29 : h29.1[p]? = some (hp_a, .inl (10, [some (p + 1), none, none, none])) := by rw [e30]; exact hp25
          have hx29 : h29.1[(p + 1)]? = some (hx_a, .inr (0, 960)) := by rw [e30]; exact hx25
          show fx_V l M_FX_pack (0, 0) Q 0 0 109 [some (.ref f), some (.ref p), some (.int (zI x2)), some (.int (zI x3)), some (.int (zI x4)), some (.int (zI 0))] [] h29
          refine fx_iinc (v := x4 + 1) (ls2 := [some (.ref f), some (.ref p), some (.int (zI x2)), some (.int (zI x3)), some (.int (zI (x4 + 1))), some (.int (zI 0))]) d_FX_pack_109 rfl rfl (by decide) rfl ?_
          refine fx_goto (n := 3) d_FX_pack_112 ?_
          exact fx_fewer [some (.ref f), some (.ref p), some (.int (zI x2)), some (.int (zI x3)), some (.int (zI (x4 + 1))), none] ⟨rfl, rfl, rfl, rfl, rfl, trivial⟩ H
        · replace H := H.2 z28
          refine fx_iconst d_FX_pack_98 ?_
          refine fx_goto (n := 106) d_FX_pack_99 ?_
          refine fx_callV (M' := M_LI_packByAnother) (B' := (0, 0)) (vs := [.ref p, .int (zI x4), .int (zI (-1))]) (rest := []) (c1 := 0) (s1 := 0) (n := 109) d_FX_pack_106 ca_FX_pack_37 (at_4 (h := _) hS25) rfl rfl rfl ⟨by decide, by decide⟩ (Nat.le_of_ble_eq_true rfl) (Or.inl rfl) (fx_Mt.mono H fun v h31 hv => ?_)
          obtain ⟨rfl, e32, H⟩ := hv
          have hS31 := e32.trans hS25
          have hf31 : h31.1[f]? = some (hf_a, .inl (9, [none, some 4, some 1, some 3])) := by rw [e32]; exact hf25
          have hp31 : h31.1[p]? = some (hp_a, .inl (10, [some (p + 1), none, none, none])) := by rw [e32]; exact hp25
          have hx31 : h31.1[(p + 1)]? = some (hx_a, .inr (0, 960)) := by rw [e32]; exact hx25
          show fx_V l M_FX_pack (0, 0) Q 0 0 109 [some (.ref f), some (.ref p), some (.int (zI x2)), some (.int (zI x3)), some (.int (zI x4)), some (.int (zI 0))] [] h31
          refine fx_iinc (v := x4 + 1) (ls2 := [some (.ref f), some (.ref p), some (.int (zI x2)), some (.int (zI x3)), some (.int (zI (x4 + 1))), some (.int (zI 0))]) d_FX_pack_109 rfl rfl (by decide) rfl ?_
          refine fx_goto (n := 3) d_FX_pack_112 ?_
          exact fx_fewer [some (.ref f), some (.ref p), some (.int (zI x2)), some (.int (zI x3)), some (.int (zI (x4 + 1))), none] ⟨rfl, rfl, rfl, rfl, rfl, trivial⟩ H
    · replace H := H.2 z15
      refine fx_iload d_FX_pack_16 rfl ?_
      refine fx_iload_n (i := 2) d_FX_pack_18 rfl rfl ?_
      refine fx_isub d_FX_pack_19 ?_
      refine fx_iconst d_FX_pack_20 ?_
      obtain ⟨hn33, H⟩ := H
      obtain ⟨hz34, H⟩ := H
      refine fx_irem d_FX_pack_21 hn33 hz34 (show (0 : Int) < 4 by decide) (show zR 4 by decide) ?_
      obtain ⟨hz35, H⟩ := H
      refine fx_if_ne (t := 29) (n := 25) d_FX_pack_22 hz35 (fun z36 => ?_) (fun z36 => ?_)
      · replace H := H.1 z36
        refine fx_iconst d_FX_pack_29 ?_
        refine fx_istore (ls2 := [some (.ref f), some (.ref p), some (.int (zI x2)), some (.int (zI x3)), some (.int (zI x4)), some (.int (zI 0))]) d_FX_pack_30 (by decide) rfl ?_
        refine fx_aload_n (i := 0) d_FX_pack_32 rfl rfl ?_
        refine fx_getI d_FX_pack_33 lk_FX_7 hf rfl ?_
        refine fx_if_eq (t := 67) (n := 39) d_FX_pack_36 hz14 (fun z37 => ?_) (fun z37 => ?_)
        · replace H := H.1 z37
          refine fx_iload d_FX_pack_67 rfl ?_
          refine fx_if_eq (t := 85) (n := 72) d_FX_pack_69 (show zR 0 by decide) (fun z => ?_) (fun z => absurd (show ¬ ((0 : Int) = (0 : Int)) from z) (by decide))
          refine fx_aload_n (i := 0) d_FX_pack_85 rfl rfl ?_
          refine fx_getR (q := 4) d_FX_pack_86 lk_FX_13 hf rfl rfl ?_
          refine fx_aload_n (i := 1) d_FX_pack_89 rfl rfl ?_
          refine fx_iload d_FX_pack_90 rfl ?_
          refine fx_iload d_FX_pack_92 rfl ?_
          refine fx_iload_n (i := 2) d_FX_pack_94 rfl rfl ?_
          obtain ⟨hz38, H⟩ := H
          refine fx_icmp_ne (t := 102) (n := 98) d_FX_pack_95 hz1 hz38 (fun z39 => ?_) (fun z39 => ?_)
          · replace H := H.1 z39
            refine fx_iload d_FX_pack_102 rfl ?_
            refine fx_iconst d_FX_pack_104 ?_
            refine fx_isub d_FX_pack_105 ?_
            refine fx_callV (M' := M_LI_packByAnother) (B' := (0, 0)) (vs := [.ref p, .int (zI x4), .int (zI (x4 - 1))]) (rest := []) (c1 := 0) (s1 := 0) (n := 109) d_FX_pack_106 ca_FX_pack_37 (at_4 (h := _) hS) rfl rfl rfl ⟨by decide, by decide⟩ (Nat.le_of_ble_eq_true rfl) (Or.inl rfl) (fx_Mt.mono H fun v h40 hv => ?_)
            obtain ⟨rfl, e41, H⟩ := hv
            have hS40 := e41.trans hS
            have hf40 : h40.1[f]? = some (hf_a, .inl (9, [none, some 4, some 1, some 3])) := by rw [e41]; exact hf
            have hp40 : h40.1[p]? = some (hp_a, .inl (10, [some (p + 1), none, none, none])) := by rw [e41]; exact hp
            have hx40 : h40.1[(p + 1)]? = some (hx_a, .inr (0, 960)) := by rw [e41]; exact hx
            show fx_V l M_FX_pack (0, 0) Q 0 0 109 [some (.ref f), some (.ref p), some (.int (zI x2)), some (.int (zI x3)), some (.int (zI x4)), some (.int (zI 0))] [] h40
            refine fx_iinc (v := x4 + 1) (ls2 := [some (.ref f), some (.ref p), some (.int (zI x2)), some (.int (zI x3)), some (.int (zI (x4 + 1))), some (.int (zI 0))]) d_FX_pack_109 rfl rfl (by decide) rfl ?_
            refine fx_goto (n := 3) d_FX_pack_112 ?_
            exact fx_fewer [some (.ref f), some (.ref p), some (.int (zI x2)), some (.int (zI x3)), some (.int (zI (x4 + 1))), none] ⟨rfl, rfl, rfl, rfl, rfl, trivial⟩ H
          · replace H := H.2 z39
            refine fx_iconst d_FX_pack_98 ?_
            refine fx_goto (n := 106) d_FX_pack_99 ?_
            refine fx_callV (M' := M_LI_packByAnother) (B' := (0, 0)) (vs := [.ref p, .int (zI x4), .int (zI (-1))]) (rest := []) (c1 := 0) (s1 := 0) (n := 109) d_FX_pack_106 ca_FX_pack_37 (at_4 (h := _) hS) rfl rfl rfl ⟨by decide, by decide⟩ (Nat.le_of_ble_eq_true rfl) (Or.inl rfl) (fx_Mt.mono H fun v h42 hv => ?_)
            obtain ⟨rfl, e43, H⟩ := hv
            have hS42 := e43.trans hS
            have hf42 : h42.1[f]? = some (hf_a, .inl (9, [none, some 4, some 1, some 3])) := by rw [e43]; exact hf
            have hp42 : h42.1[p]? = some (hp_a, .inl (10, [some (p + 1), none, none, none])) := by rw [e43]; exact hp
            have hx42 : h42.1[(p + 1)]? = some (hx_a, .inr (0, 960)) := by rw [e43]; exact hx
            show fx_V l M_FX_pack (0, 0) Q 0 0 109 [some (.ref f), some (.ref p), some (.int (zI x2)), some (.int (zI x3)), some (.int (zI x4)), some (.int (zI 0))] [] h42
            refine fx_iinc (v := x4 + 1) (ls2 := [some (.ref f), some (.ref p), some (.int (zI x2)), some (.int (zI x3)), some (.int (zI (x4 + 1))), some (.int (zI 0))]) d_FX_pack_109 rfl rfl (by decide) rfl ?_
            refine fx_goto (n := 3) d_FX_pack_112 ?_
            exact fx_fewer [some (.ref f), some (.ref p), some (.int (zI x2)), some (.int (zI x3)), some (.int (zI (x4 + 1))), none] ⟨rfl, rfl, rfl, rfl, rfl, trivial⟩ H
        · replace H := H.2 z37
          refine fx_aload_n (i := 0) d_FX_pack_39 rfl rfl ?_
          refine fx_getR (q := 1) d_FX_pack_40 lk_FX_17 hf rfl rfl ?_
          refine fx_iconst d_FX_pack_43 ?_
          refine fx_bipush (v := 12) d_FX_pack_44 rfl ?_
          refine fx_callV (M' := M_BY_appendBits) (B' := (0, 0)) (vs := [.int (zI 1), .int (zI 12)]) (rest := []) (c1 := 0) (s1 := 0) (n := 49) d_FX_pack_46 ca_FX_pack_25 (at_1 (h := _) hS) rfl rfl rfl ⟨by decide, by decide⟩ (Nat.le_of_ble_eq_true rfl) (Or.inl rfl) (fx_Mt.mono H fun v h44 hv => ?_)
          obtain ⟨rfl, e45, H⟩ := hv
          have hS44 := e45.trans hS
          have hf44 : h44.1[f]? = some (hf_a, .inl (9, [none, some 4, some 1, some 3])) := by rw [e45]; exact hf
          have hp44 : h44.1[p]? = some (hp_a, .inl (10, [some (p + 1), none, none, none])) := by rw [e45]; exact hp
          have hx44 : h44.1[(p + 1)]? = some (hx_a, .inr (0, 960)) := by rw [e45]; exact hx
          show fx_V l M_FX_pack (0, 0) Q 0 0 49 [some (.ref f), some (.ref p), some (.int (zI x2)), some (.int (zI x3)), some (.int (zI x4)), some (.int (zI 0))] [] h44
          refine fx_aload_n (i := 0) d_FX_pack_49 rfl rfl ?_
          refine fx_getR (q := 1) d_FX_pack_50 lk_FX_17 hf44 rfl rfl ?_
          refine fx_iload d_FX_pack_53 rfl ?_
          refine fx_if_eq (t := 62) (n := 58) d_FX_pack_55 (show zR 0 by decide) (fun z => ?_) (fun z => absurd (show ¬ ((0 : Int) = (0 : Int)) from z) (by decide))
          refine fx_iconst d_FX_pack_62 ?_
          refine fx_iconst d_FX_pack_63 ?_
          refine fx_callV (M' := M_BY_appendBits) (B' := (0, 0)) (vs := [.int (zI 0), .int (zI 1)]) (rest := []) (c1 := 0) (s1 := 0) (n := 67) d_FX_pack_64 ca_FX_pack_25 (at_1 (h := _) hS44) rfl rfl rfl ⟨by decide, by decide⟩ (Nat.le_of_ble_eq_true rfl) (Or.inl rfl) (fx_Mt.mono H fun v h46 hv => ?_)
          obtain ⟨rfl, e47, H⟩ := hv
          have hS46 := e47.trans hS44
          have hf46 : h46.1[f]? = some (hf_a, .inl (9, [none, some 4, some 1, some 3])) := by rw [e47]; exact hf44
          have hp46 : h46.1[p]? = some (hp_a, .inl (10, [some (p + 1), none, none, none])) := by rw [e47]; exact hp44
          have hx46 : h46.1[(p + 1)]? = some (hx_a, .inr (0, 960)) := by rw [e47]; exact hx44
          show fx_V l M_FX_pack (0, 0) Q 0 0 67 [some (.ref f), some (.ref p), some (.int (zI x2)), some (.int (zI x3)), some (.int (zI x4)), some (.int (zI 0))] [] h46
          refine fx_iload d_FX_pack_67 rfl ?_
          refine fx_if_eq (t := 85) (n := 72) d_FX_pack_69 (show zR 0 by decide) (fun z => ?_) (fun z => absurd (show ¬ ((0 : Int) = (0 : Int)) from z) (by decide))
          refine fx_aload_n (i := 0) d_FX_pack_85 rfl rfl ?_
          refine fx_getR (q := 4) d_FX_pack_86 lk_FX_13 hf46 rfl rfl ?_
          refine fx_aload_n (i := 1) d_FX_pack_89 rfl rfl ?_
          refine fx_iload d_FX_pack_90 rfl ?_
          refine fx_iload d_FX_pack_92 rfl ?_
          refine fx_iload_n (i := 2) d_FX_pack_94 rfl rfl ?_
          obtain ⟨hz48, H⟩ := H
          refine fx_icmp_ne (t := 102) (n := 98) d_FX_pack_95 hz1 hz48 (fun z49 => ?_) (fun z49 => ?_)
          · replace H := H.1 z49
            refine fx_iload d_FX_pack_102 rfl ?_
            refine fx_iconst d_FX_pack_104 ?_
            refine fx_isub d_FX_pack_105 ?_
            refine fx_callV (M' := M_LI_packByAnother) (B' := (0, 0)) (vs := [.ref p, .int (zI x4), .int (zI (x4 - 1))]) (rest := []) (c1 := 0) (s1 := 0) (n := 109) d_FX_pack_106 ca_FX_pack_37 (at_4 (h := _) hS46) rfl rfl rfl ⟨by decide, by decide⟩ (Nat.le_of_ble_eq_true rfl) (Or.inl rfl) (fx_Mt.mono H fun v h50 hv => ?_)
            obtain ⟨rfl, e51, H⟩ := hv
            have hS50 := e51.trans hS46
            have hf50 : h50.1[f]? = some (hf_a, .inl (9, [none, some 4, some 1, some 3])) := by rw [e51]; exact hf46
            have hp50 : h50.1[p]? = some (hp_a, .inl (10, [some (p + 1), none, none, none])) := by rw [e51]; exact hp46
            have hx50 : h50.1[(p + 1)]? = some (hx_a, .inr (0, 960)) := by rw [e51]; exact hx46
            show fx_V l M_FX_pack (0, 0) Q 0 0 109 [some (.ref f), some (.ref p), some (.int (zI x2)), some (.int (zI x3)), some (.int (zI x4)), some (.int (zI 0))] [] h50
            refine fx_iinc (v := x4 + 1) (ls2 := [some (.ref f), some (.ref p), some (.int (zI x2)), some (.int (zI x3)), some (.int (zI (x4 + 1))), some (.int (zI 0))]) d_FX_pack_109 rfl rfl (by decide) rfl ?_
            refine fx_goto (n := 3) d_FX_pack_112 ?_
            exact fx_fewer [some (.ref f), some (.ref p), some (.int (zI x2)), some (.int (zI x3)), some (.int (zI (x4 + 1))), none] ⟨rfl, rfl, rfl, rfl, rfl, trivial⟩ H
          · replace H := H.2 z49
            refine fx_iconst d_FX_pack_98 ?_
            refine fx_goto (n := 106) d_FX_pack_99 ?_
            refine fx_callV (M' := M_LI_packByAnother) (B' := (0, 0)) (vs := [.ref p, .int (zI x4), .int (zI (-1))]) (rest := []) (c1 := 0) (s1 := 0) (n := 109) d_FX_pack_106 ca_FX_pack_37 (at_4 (h := _) hS46) rfl rfl rfl ⟨by decide, by decide⟩ (Nat.le_of_ble_eq_true rfl) (Or.inl rfl) (fx_Mt.mono H fun v h52 hv => ?_)
            obtain ⟨rfl, e53, H⟩ := hv
            have hS52 := e53.trans hS46
            have hf52 : h52.1[f]? = some (hf_a, .inl (9, [none, some 4, some 1, some 3])) := by rw [e53]; exact hf46
            have hp52 : h52.1[p]? = some (hp_a, .inl (10, [some (p + 1), none, none, none])) := by rw [e53]; exact hp46
            have hx52 : h52.1[(p + 1)]? = some (hx_a, .inr (0, 960)) := by rw [e53]; exact hx46
            show fx_V l M_FX_pack (0, 0) Q 0 0 109 [some (.ref f), some (.ref p), some (.int (zI x2)), some (.int (zI x3)), some (.int (zI x4)), some (.int (zI 0))] [] h52
            refine fx_iinc (v := x4 + 1) (ls2 := [some (.ref f), some (.ref p), some (.int (zI x2)), some (.int (zI x3)), some (.int (zI (x4 + 1))), some (.int (zI 0))]) d_FX_pack_109 rfl rfl (by decide) rfl ?_
            refine fx_goto (n := 3) d_FX_pack_112 ?_
            exact fx_fewer [some (.ref f), some (.ref p), some (.int (zI x2)), some (.int (zI x3)), some (.int (zI (x4 + 1))), none] ⟨rfl, rfl, rfl, rfl, rfl, trivial⟩ H
      · replace H := H.2 z36
        refine fx_iconst d_FX_pack_25 ?_
        refine fx_goto (n := 30) d_FX_pack_26 ?_
        refine fx_istore (ls2 := [some (.ref f), some (.ref p), some (.int (zI x2)), some (.int (zI x3)), some (.int (zI x4)), some (.int (zI 1))]) d_FX_pack_30 (by decide) rfl ?_
        refine fx_aload_n (i := 0) d_FX_pack_32 rfl rfl ?_
        refine fx_getI d_FX_pack_33 lk_FX_7 hf rfl ?_
        refine fx_if_eq (t := 67) (n := 39) d_FX_pack_36 hz14 (fun z54 => ?_) (fun z54 => ?_)
        · replace H := H.1 z54
          refine fx_iload d_FX_pack_67 rfl ?_
          refine fx_if_eq (t := 85) (n := 72) d_FX_pack_69 (show zR 1 by decide) (fun z => absurd (show (1 : Int) = (0 : Int) from z) (by decide)) (fun z => ?_)
          refine fx_aload_n (i := 0) d_FX_pack_72 rfl rfl ?_
          refine fx_getR (q := 4) d_FX_pack_73 lk_FX_13 hf rfl rfl ?_
          refine fx_aload_n (i := 1) d_FX_pack_76 rfl rfl ?_
          refine fx_iload d_FX_pack_77 rfl ?_
          refine fx_callV (M' := M_LI_packByItself) (B' := (0, 0)) (vs := [.ref p, .int (zI x4)]) (rest := []) (c1 := 0) (s1 := 0) (n := 82) d_FX_pack_79 ca_FX_pack_31 (at_4 (h := _) hS) rfl rfl rfl ⟨by decide, by decide⟩ (Nat.le_of_ble_eq_true rfl) (Or.inl rfl) (fx_Mt.mono H fun v h55 hv => ?_)
          obtain ⟨rfl, e56, H⟩ := hv
          have hS55 := e56.trans hS
          have hf55 : h55.1[f]? = some (hf_a, .inl (9, [none, some 4, some 1, some 3])) := by rw [e56]; exact hf
          have hp55 : h55.1[p]? = some (hp_a, .inl (10, [some (p + 1), none, none, none])) := by rw [e56]; exact hp
          have hx55 : h55.1[(p + 1)]? = some (hx_a, .inr (0, 960)) := by rw [e56]; exact hx
          show fx_V l M_FX_pack (0, 0) Q 0 0 82 [some (.ref f), some (.ref p), some (.int (zI x2)), some (.int (zI x3)), some (.int (zI x4)), some (.int (zI 1))] [] h55
          refine fx_goto (n := 109) d_FX_pack_82 ?_
          refine fx_iinc (v := x4 + 1) (ls2 := [some (.ref f), some (.ref p), some (.int (zI x2)), some (.int (zI x3)), some (.int (zI (x4 + 1))), some (.int (zI 1))]) d_FX_pack_109 rfl rfl (by decide) rfl ?_
          refine fx_goto (n := 3) d_FX_pack_112 ?_
          exact fx_fewer [some (.ref f), some (.ref p), some (.int (zI x2)), some (.int (zI x3)), some (.int (zI (x4 + 1))), none] ⟨rfl, rfl, rfl, rfl, rfl, trivial⟩ H
        · replace H := H.2 z54
          refine fx_aload_n (i := 0) d_FX_pack_39 rfl rfl ?_
          refine fx_getR (q := 1) d_FX_pack_40 lk_FX_17 hf rfl rfl ?_
          refine fx_iconst d_FX_pack_43 ?_
          refine fx_bipush (v := 12) d_FX_pack_44 rfl ?_
          refine fx_callV (M' := M_BY_appendBits) (B' := (0, 0)) (vs := [.int (zI 1), .int (zI 12)]) (rest := []) (c1 := 0) (s1 := 0) (n := 49) d_FX_pack_46 ca_FX_pack_25 (at_1 (h := _) hS) rfl rfl rfl ⟨by decide, by decide⟩ (Nat.le_of_ble_eq_true rfl) (Or.inl rfl) (fx_Mt.mono H fun v h57 hv => ?_)
          obtain ⟨rfl, e58, H⟩ := hv
          have hS57 := e58.trans hS
          have hf57 : h57.1[f]? = some (hf_a, .inl (9, [none, some 4, some 1, some 3])) := by rw [e58]; exact hf
          have hp57 : h57.1[p]? = some (hp_a, .inl (10, [some (p + 1), none, none, none])) := by rw [e58]; exact hp
          have hx57 : h57.1[(p + 1)]? = some (hx_a, .inr (0, 960)) := by rw [e58]; exact hx
          show fx_V l M_FX_pack (0, 0) Q 0 0 49 [some (.ref f), some (.ref p), some (.int (zI x2)), some (.int (zI x3)), some (.int (zI x4)), some (.int (zI 1))] [] h57
          refine fx_aload_n (i := 0) d_FX_pack_49 rfl rfl ?_
          refine fx_getR (q := 1) d_FX_pack_50 lk_FX_17 hf57 rfl rfl ?_
          refine fx_iload d_FX_pack_53 rfl ?_
          refine fx_if_eq (t := 62) (n := 58) d_FX_pack_55 (show zR 1 by decide) (fun z => absurd (show (1 : Int) = (0 : Int) from z) (by decide)) (fun z => ?_)
          refine fx_iconst d_FX_pack_58 ?_
          refine fx_goto (n := 63) d_FX_pack_59 ?_
          refine fx_iconst d_FX_pack_63 ?_
          refine fx_callV (M' := M_BY_appendBits) (B' := (0, 0)) (vs := [.int (zI 1), .int (zI 1)]) (rest := []) (c1 := 0) (s1 := 0) (n := 67) d_FX_pack_64 ca_FX_pack_25 (at_1 (h := _) hS57) rfl rfl rfl ⟨by decide, by decide⟩ (Nat.le_of_ble_eq_true rfl) (Or.inl rfl) (fx_Mt.mono H fun v h59 hv => ?_)
          obtain ⟨rfl, e60, H⟩ := hv
          have hS59 := e60.trans hS57
          have hf59 : h59.1[f]? = some (hf_a, .inl (9, [none, some 4, some 1, some 3])) := by rw [e60]; exact hf57
          have hp59 : h59.1[p]? = some (hp_a, .inl (10, [some (p + 1), none, none, none])) := by rw [e60]; exact hp57
          have hx59 : h59.1[(p + 1)]? = some (hx_a, .inr (0, 960)) := by rw [e60]; exact hx57
          show fx_V l M_FX_pack (0, 0) Q 0 0 67 [some (.ref f), some (.ref p), some (.int (zI x2)), some (.int (zI x3)), some (.int (zI x4)), some (.int (zI 1))] [] h59
          refine fx_iload d_FX_pack_67 rfl ?_
          refine fx_if_eq (t := 85) (n := 72) d_FX_pack_69 (show zR 1 by decide) (fun z => absurd (show (1 : Int) = (0 : Int) from z) (by decide)) (fun z => ?_)
          refine fx_aload_n (i := 0) d_FX_pack_72 rfl rfl ?_
          refine fx_getR (q := 4) d_FX_pack_73 lk_FX_13 hf59 rfl rfl ?_
          refine fx_aload_n (i := 1) d_FX_pack_76 rfl rfl ?_
          refine fx_iload d_FX_pack_77 rfl ?_
          refine fx_callV (M' := M_LI_packByItself) (B' := (0, 0)) (vs := [.ref p, .int (zI x4)]) (rest := []) (c1 := 0) (s1 := 0) (n := 82) d_FX_pack_79 ca_FX_pack_31 (at_4 (h := _) hS59) rfl rfl rfl ⟨by decide, by decide⟩ (Nat.le_of_ble_eq_true rfl) (Or.inl rfl) (fx_Mt.mono H fun v h61 hv => ?_)
          obtain ⟨rfl, e62, H⟩ := hv
          have hS61 := e62.trans hS59
          have hf61 : h61.1[f]? = some (hf_a, .inl (9, [none, some 4, some 1, some 3])) := by rw [e62]; exact hf59
          have hp61 : h61.1[p]? = some (hp_a, .inl (10, [some (p + 1), none, none, none])) := by rw [e62]; exact hp59
          have hx61 : h61.1[(p + 1)]? = some (hx_a, .inr (0, 960)) := by rw [e62]; exact hx59
          show fx_V l M_FX_pack (0, 0) Q 0 0 82 [some (.ref f), some (.ref p), some (.int (zI x2)), some (.int (zI x3)), some (.int (zI x4)), some (.int (zI 1))] [] h61
          refine fx_goto (n := 109) d_FX_pack_82 ?_
          refine fx_iinc (v := x4 + 1) (ls2 := [some (.ref f), some (.ref p), some (.int (zI x2)), some (.int (zI x3)), some (.int (zI (x4 + 1))), some (.int (zI 1))]) d_FX_pack_109 rfl rfl (by decide) rfl ?_
          refine fx_goto (n := 3) d_FX_pack_112 ?_
          exact fx_fewer [some (.ref f), some (.ref p), some (.int (zI x2)), some (.int (zI x3)), some (.int (zI (x4 + 1))), none] ⟨rfl, rfl, rfl, rfl, rfl, trivial⟩ H

set_option maxRecDepth 100000 in
set_option maxHeartbeats 4000000 in
theorem e_FX_unpack {l : Launch} {Q : Option Value → fx_H → Prop} {h : fx_H} {f : Nat} {p : Nat} {x : Int} {y : Int} {hf_a : Nat} {hp_a : Nat} {hx_a : Nat} {a : Nat → Nat} {pp dd : Nat} (hS : h.1 = fx_S0 a pp dd) (hf : h.1[f]? = some (hf_a, .inl (9, [none, some 4, some 1, some 3]))) (hp : h.1[p]? = some (hp_a, .inl (10, [some (p + 1), none, none, none]))) (hx : h.1[(p + 1)]? = some (hx_a, .inr (0, 960)))
    (H : (fx_V l M_FX_unpack (0, 0) Q 0 0 3 [some (.ref f), some (.ref p), some (.int (zI x)), some (.int (zI y)), some (.int (zI x)), none, none] [] h)) :
    fx_Mt l M_FX_unpack (0, 0) [.ref f, .ref p, .int (zI x), .int (zI y)] h Q := by
  refine fx_entry (ls := [some (.ref f), some (.ref p), some (.int (zI x)), some (.int (zI y)), none, none, none]) (by decide) (Nat.le_of_ble_eq_true rfl) rfl ?_
  refine fx_iload_n (i := 2) d_FX_unpack_0 rfl rfl ?_
  refine fx_istore (ls2 := [some (.ref f), some (.ref p), some (.int (zI x)), some (.int (zI y)), some (.int (zI x)), none, none]) d_FX_unpack_1 (by decide) rfl ?_
  exact H

set_option maxRecDepth 100000 in
set_option maxHeartbeats 4000000 in
theorem w_FX_unpack_3 {l : Launch} {Q : Option Value → fx_H → Prop} {h : fx_H} {f : Nat} {p : Nat} {x2 : Int} {x3 : Int} {x4 : Int} {hf_a : Nat} {hp_a : Nat} {hx_a : Nat} {a : Nat → Nat} {pp dd : Nat} (hS : h.1 = fx_S0 a pp dd) (hf : h.1[f]? = some (hf_a, .inl (9, [none, some 4, some 1, some 3]))) (hp : h.1[p]? = some (hp_a, .inl (10, [some (p + 1), none, none, none]))) (hx : h.1[(p + 1)]? = some (hx_a, .inr (0, 960)))
    (H : zR x4 ∧ zR x3 ∧ ((x3 ≤ x4 → zR (h.2.1 f 0) ∧ ((¬ (h.2.1 f 0) = 0 → fx_Mt l M_BR_onlyFillLeft (0, 0) [.ref 3] h (fun v h6 => ∃ r8 : Int, v = some (.int (zI r8)) ∧ h6.1 = h.1 ∧ zR r8 ∧ ((r8 = 0 → Q (some (.int (zI 0))) h6) ∧ (¬ (r8 = 0) → Q (some (.int (zI 1))) h6)))) ∧ ((h.2.1 f 0) = 0 → fx_Mt l M_FX_isMark (0, 0) [.ref f] h (fun v h11 => ∃ r13 : Int, v = some (.int (zI r13)) ∧ h11.1 = h.1 ∧ zR r13 ∧ ((r13 = 0 → Q (some (.int (zI 0))) h11) ∧ (¬ (r13 = 0) → fx_Mt l M_FX_isMark (0, 0) [.ref f] h11 (fun v h16 => ∃ r18 : Int, v = some (.int (zI r18)) ∧ h16.1 = h11.1 ∧ zR r18 ∧ ((r18 = 0 → Q (some (.int (zI 0))) h16) ∧ (¬ (r18 = 0) → fx_Mt l M_BR_onlyFillLeft (0, 0) [.ref 3] h16 (fun v h21 => ∃ r23 : Int, v = some (.int (zI r23)) ∧ h21.1 = h16.1 ∧ zR r23 ∧ ((r23 = 0 → Q (some (.int (zI 0))) h21) ∧ (¬ (r23 = 0) → Q (some (.int (zI 1))) h21)))))))))))) ∧ (¬ (x3 ≤ x4) → zR (h.2.1 f 0) ∧ (((h.2.1 f 0) = 0 → (((h.2.1 f 0) = 0 → zR x2 ∧ ((¬ x4 = x2 → fx_Mt l M_LI_unpackByAnother (0, 0) [.ref 4, .ref p, .int (zI x4), .int (zI (x4 - 1))] h (fun v h31 => ∃ r33 : Int, v = some (.int (zI r33)) ∧ h31.1 = h.1 ∧ zR r33 ∧ ((¬ r33 = 0 → (fx_V l M_FX_unpack (0, 0) Q 0 0 3 [some (.ref f), some (.ref p), some (.int (zI x2)), some (.int (zI x3)), some (.int (zI (x4 + 1))), none, none] [] h31)) ∧ (r33 = 0 → Q (some (.int (zI 0))) h31)))) ∧ (x4 = x2 → fx_Mt l M_LI_unpackByAnother (0, 0) [.ref 4, .ref p, .int (zI x4), .int (zI (-1))] h (fun v h36 => ∃ r38 : Int, v = some (.int (zI r38)) ∧ h36.1 = h.1 ∧ zR r38 ∧ ((¬ r38 = 0 → (fx_V l M_FX_unpack (0, 0) Q 0 0 3 [some (.ref f), some (.ref p), some (.int (zI x2)), some (.int (zI x3)), some (.int (zI (x4 + 1))), none, none] [] h36)) ∧ (r38 = 0 → Q (some (.int (zI 0))) h36)))))) ∧ (¬ ((h.2.1 f 0) = 0) → zR x2 ∧ ((¬ x4 = x2 → ((¬ x4 = x2 → fx_Mt l M_LI_unpackByAnother (0, 0) [.ref 4, .ref p, .int (zI x4), .int (zI (x4 - 1))] h (fun v h44 => ∃ r46 : Int, v = some (.int (zI r46)) ∧ h44.1 = h.1 ∧ zR r46 ∧ ((¬ r46 = 0 → (fx_V l M_FX_unpack (0, 0) Q 0 0 3 [some (.ref f), some (.ref p), some (.int (zI x2)), some (.int (zI x3)), some (.int (zI (x4 + 1))), none, none] [] h44)) ∧ (r46 = 0 → Q (some (.int (zI 0))) h44)))) ∧ (x4 = x2 → fx_Mt l M_LI_unpackByAnother (0, 0) [.ref 4, .ref p, .int (zI x4), .int (zI (-1))] h (fun v h49 => ∃ r51 : Int, v = some (.int (zI r51)) ∧ h49.1 = h.1 ∧ zR r51 ∧ ((¬ r51 = 0 → (fx_V l M_FX_unpack (0, 0) Q 0 0 3 [some (.ref f), some (.ref p), some (.int (zI x2)), some (.int (zI x3)), some (.int (zI (x4 + 1))), none, none] [] h49)) ∧ (r51 = 0 → Q (some (.int (zI 0))) h49)))))) ∧ (x4 = x2 → Q (some (.int (zI 0))) h))))) ∧ (¬ ((h.2.1 f 0) = 0) → fx_Mt l M_FX_markedLine (0, 0) [.ref f] h (fun v h54 => ∃ r56 : Int, v = some (.int (zI r56)) ∧ h54.1 = h.1 ∧ zR r56 ∧ ((r56 < 0 → Q (some (.int (zI 0))) h54) ∧ (¬ (r56 < 0) → zR (h54.2.1 f 0) ∧ (((h54.2.1 f 0) = 0 → ((¬ r56 = 1 → zR x2 ∧ ((¬ x4 = x2 → fx_Mt l M_LI_unpackByAnother (0, 0) [.ref 4, .ref p, .int (zI x4), .int (zI (x4 - 1))] h54 (fun v h64 => ∃ r66 : Int, v = some (.int (zI r66)) ∧ h64.1 = h54.1 ∧ zR r66 ∧ ((¬ r66 = 0 → (fx_V l M_FX_unpack (0, 0) Q 0 0 3 [some (.ref f), some (.ref p), some (.int (zI x2)), some (.int (zI x3)), some (.int (zI (x4 + 1))), none, none] [] h64)) ∧ (r66 = 0 → Q (some (.int (zI 0))) h64)))) ∧ (x4 = x2 → fx_Mt l M_LI_unpackByAnother (0, 0) [.ref 4, .ref p, .int (zI x4), .int (zI (-1))] h54 (fun v h69 => ∃ r71 : Int, v = some (.int (zI r71)) ∧ h69.1 = h54.1 ∧ zR r71 ∧ ((¬ r71 = 0 → (fx_V l M_FX_unpack (0, 0) Q 0 0 3 [some (.ref f), some (.ref p), some (.int (zI x2)), some (.int (zI x3)), some (.int (zI (x4 + 1))), none, none] [] h69)) ∧ (r71 = 0 → Q (some (.int (zI 0))) h69)))))) ∧ (r56 = 1 → fx_Mt l M_LI_unpackByItself (0, 0) [.ref 4, .ref p, .int (zI x4)] h54 (fun v h74 => ∃ r76 : Int, v = some (.int (zI r76)) ∧ h74.1 = h54.1 ∧ zR r76 ∧ ((¬ r76 = 0 → (fx_V l M_FX_unpack (0, 0) Q 0 0 3 [some (.ref f), some (.ref p), some (.int (zI x2)), some (.int (zI x3)), some (.int (zI (x4 + 1))), none, none] [] h74)) ∧ (r76 = 0 → Q (some (.int (zI 0))) h74)))))) ∧ (¬ ((h54.2.1 f 0) = 0) → zR x2 ∧ ((¬ x4 = x2 → ((¬ r56 = 1 → ((¬ x4 = x2 → fx_Mt l M_LI_unpackByAnother (0, 0) [.ref 4, .ref p, .int (zI x4), .int (zI (x4 - 1))] h54 (fun v h83 => ∃ r85 : Int, v = some (.int (zI r85)) ∧ h83.1 = h54.1 ∧ zR r85 ∧ ((¬ r85 = 0 → (fx_V l M_FX_unpack (0, 0) Q 0 0 3 [some (.ref f), some (.ref p), some (.int (zI x2)), some (.int (zI x3)), some (.int (zI (x4 + 1))), none, none] [] h83)) ∧ (r85 = 0 → Q (some (.int (zI 0))) h83)))) ∧ (x4 = x2 → fx_Mt l M_LI_unpackByAnother (0, 0) [.ref 4, .ref p, .int (zI x4), .int (zI (-1))] h54 (fun v h88 => ∃ r90 : Int, v = some (.int (zI r90)) ∧ h88.1 = h54.1 ∧ zR r90 ∧ ((¬ r90 = 0 → (fx_V l M_FX_unpack (0, 0) Q 0 0 3 [some (.ref f), some (.ref p), some (.int (zI x2)), some (.int (zI x3)), some (.int (zI (x4 + 1))), none, none] [] h88)) ∧ (r90 = 0 → Q (some (.int (zI 0))) h88)))))) ∧ (r56 = 1 → fx_Mt l M_LI_unpackByItself (0, 0) [.ref 4, .ref p, .int (zI x4)] h54 (fun v h93 => ∃ r95 : Int, v = some (.int (zI r95)) ∧ h93.1 = h54.1 ∧ zR r95 ∧ ((¬ r95 = 0 → (fx_V l M_FX_unpack (0, 0) Q 0 0 3 [some (.ref f), some (.ref p), some (.int (zI x2)), some (.int (zI x3)), some (.int (zI (x4 + 1))), none, none] [] h93)) ∧ (r95 = 0 → Q (some (.int (zI 0))) h93)))))) ∧ (x4 = x2 → ((¬ r56 = 0 → ((¬ r56 = 1 → ((¬ x4 = x2 → fx_Mt l M_LI_unpackByAnother (0, 0) [.ref 4, .ref p, .int (zI x4), .int (zI (x4 - 1))] h54 (fun v h101 => ∃ r103 : Int, v = some (.int (zI r103)) ∧ h101.1 = h54.1 ∧ zR r103 ∧ ((¬ r103 = 0 → (fx_V l M_FX_unpack (0, 0) Q 0 0 3 [some (.ref f), some (.ref p), some (.int (zI x2)), some (.int (zI x3)), some (.int (zI (x4 + 1))), none, none] [] h101)) ∧ (r103 = 0 → Q (some (.int (zI 0))) h101)))) ∧ (x4 = x2 → fx_Mt l M_LI_unpackByAnother (0, 0) [.ref 4, .ref p, .int (zI x4), .int (zI (-1))] h54 (fun v h106 => ∃ r108 : Int, v = some (.int (zI r108)) ∧ h106.1 = h54.1 ∧ zR r108 ∧ ((¬ r108 = 0 → (fx_V l M_FX_unpack (0, 0) Q 0 0 3 [some (.ref f), some (.ref p), some (.int (zI x2)), some (.int (zI x3)), some (.int (zI (x4 + 1))), none, none] [] h106)) ∧ (r108 = 0 → Q (some (.int (zI 0))) h106)))))) ∧ (r56 = 1 → fx_Mt l M_LI_unpackByItself (0, 0) [.ref 4, .ref p, .int (zI x4)] h54 (fun v h111 => ∃ r113 : Int, v = some (.int (zI r113)) ∧ h111.1 = h54.1 ∧ zR r113 ∧ ((¬ r113 = 0 → (fx_V l M_FX_unpack (0, 0) Q 0 0 3 [some (.ref f), some (.ref p), some (.int (zI x2)), some (.int (zI x3)), some (.int (zI (x4 + 1))), none, none] [] h111)) ∧ (r113 = 0 → Q (some (.int (zI 0))) h111)))))) ∧ (r56 = 0 → Q (some (.int (zI 0))) h54)))))))))))))) :
    fx_V l M_FX_unpack (0, 0) Q 0 0 3 [some (.ref f), some (.ref p), some (.int (zI x2)), some (.int (zI x3)), some (.int (zI x4)), none, none] [] h := by
  refine fx_iload d_FX_unpack_3 rfl ?_
  refine fx_iload_n (i := 3) d_FX_unpack_5 rfl rfl ?_
  obtain ⟨hz1, H⟩ := H
  obtain ⟨hz2, H⟩ := H
  refine fx_icmp_ge (t := 109) (n := 9) d_FX_unpack_6 hz1 hz2 (fun z3 => ?_) (fun z3 => ?_)
  · replace H := H.1 z3
    refine fx_aload_n (i := 0) d_FX_unpack_109 rfl rfl ?_
    refine fx_getI d_FX_unpack_110 lk_FX_7 hf rfl ?_
    obtain ⟨hz4, H⟩ := H
    refine fx_if_ne (t := 130) (n := 116) d_FX_unpack_113 hz4 (fun z5 => ?_) (fun z5 => ?_)
    · replace H := H.1 z5
      refine fx_aload_n (i := 0) d_FX_unpack_130 rfl rfl ?_
      refine fx_getR (q := 3) d_FX_unpack_131 lk_FX_21 hf rfl rfl ?_
      refine fx_callV (M' := M_BR_onlyFillLeft) (B' := (0, 0)) (vs := []) (rest := []) (c1 := 0) (s1 := 0) (n := 137) d_FX_unpack_134 ca_FX_unpack_60 (at_3 (h := _) hS) rfl rfl rfl ⟨by decide, by decide⟩ (Nat.le_of_ble_eq_true rfl) (Or.inl rfl) (fx_Mt.mono H fun v h6 hv => ?_)
      obtain ⟨r8, rfl, e7, H⟩ := hv
      have hS6 := e7.trans hS
      have hf6 : h6.1[f]? = some (hf_a, .inl (9, [none, some 4, some 1, some 3])) := by rw [e7]; exact hf
      have hp6 : h6.1[p]? = some (hp_a, .inl (10, [some (p + 1), none, none, none])) := by rw [e7]; exact hp
      have hx6 : h6.1[(p + 1)]? = some (hx_a, .inr (0, 960)) := by rw [e7]; exact hx
      show fx_V l M_FX_unpack (0, 0) Q 0 0 137 [some (.ref f), some (.ref p), some (.int (zI x2)), some (.int (zI x3)), some (.int (zI x4)), none, none] [.int (zI r8)] h6
      obtain ⟨hz9, H⟩ := H
      refine fx_if_eq (t := 144) (n := 140) d_FX_unpack_137 hz9 (fun z10 => ?_) (fun z10 => ?_)
      · replace H := H.1 z10
        refine fx_iconst d_FX_unpack_144 ?_
        exact fx_end (some (.int (zI 0))) ⟨⟨_, rfl, rfl⟩, d_FX_unpack_145⟩ (Nat.le_refl _) (Nat.le_refl _) rfl H
      · replace H := H.2 z10
        refine fx_iconst d_FX_unpack_140 ?_
        refine fx_goto (n := 145) d_FX_unpack_141 ?_
        exact fx_end (some (.int (zI 1))) ⟨⟨_, rfl, rfl⟩, d_FX_unpack_145⟩ (Nat.le_refl _) (Nat.le_refl _) rfl H
    · replace H := H.2 z5
      refine fx_aload_n (i := 0) d_FX_unpack_116 rfl rfl ?_
      refine fx_callV (M' := M_FX_isMark) (B' := (0, 0)) (vs := []) (rest := []) (c1 := 0) (s1 := 0) (n := 120) d_FX_unpack_117 ca_FX_unpack_56 hf rfl rfl rfl ⟨by decide, by decide⟩ (Nat.le_of_ble_eq_true rfl) (Or.inl rfl) (fx_Mt.mono H fun v h11 hv => ?_)
      obtain ⟨r13, rfl, e12, H⟩ := hv
      have hS11 := e12.trans hS
      have hf11 : h11.1[f]? = some (hf_a, .inl (9, [none, some 4, some 1, some 3])) := by rw [e12]; exact hf
      have hp11 : h11.1[p]? = some (hp_a, .inl (10, [some (p + 1), none, none, none])) := by rw [e12]; exact hp
      have hx11 : h11.1[(p + 1)]? = some (hx_a, .inr (0, 960)) := by rw [e12]; exact hx
      show fx_V l M_FX_unpack (0, 0) Q 0 0 120 [some (.ref f), some (.ref p), some (.int (zI x2)), some (.int (zI x3)), some (.int (zI x4)), none, none] [.int (zI r13)] h11
      obtain ⟨hz14, H⟩ := H
      refine fx_if_eq (t := 144) (n := 123) d_FX_unpack_120 hz14 (fun z15 => ?_) (fun z15 => ?_)
      · replace H := H.1 z15
        refine fx_iconst d_FX_unpack_144 ?_
        exact fx_end (some (.int (zI 0))) ⟨⟨_, rfl, rfl⟩, d_FX_unpack_145⟩ (Nat.le_refl _) (Nat.le_refl _) rfl H
      · replace H := H.2 z15
        refine fx_aload_n (i := 0) d_FX_unpack_123 rfl rfl ?_
        refine fx_callV (M' := M_FX_isMark) (B' := (0, 0)) (vs := []) (rest := []) (c1 := 0) (s1 := 0) (n := 127) d_FX_unpack_124 ca_FX_unpack_56 hf11 rfl rfl rfl ⟨by decide, by decide⟩ (Nat.le_of_ble_eq_true rfl) (Or.inl rfl) (fx_Mt.mono H fun v h16 hv => ?_)
        obtain ⟨r18, rfl, e17, H⟩ := hv
        have hS16 := e17.trans hS11
        have hf16 : h16.1[f]? = some (hf_a, .inl (9, [none, some 4, some 1, some 3])) := by rw [e17]; exact hf11
        have hp16 : h16.1[p]? = some (hp_a, .inl (10, [some (p + 1), none, none, none])) := by rw [e17]; exact hp11
        have hx16 : h16.1[(p + 1)]? = some (hx_a, .inr (0, 960)) := by rw [e17]; exact hx11
        show fx_V l M_FX_unpack (0, 0) Q 0 0 127 [some (.ref f), some (.ref p), some (.int (zI x2)), some (.int (zI x3)), some (.int (zI x4)), none, none] [.int (zI r18)] h16
        obtain ⟨hz19, H⟩ := H
        refine fx_if_eq (t := 144) (n := 130) d_FX_unpack_127 hz19 (fun z20 => ?_) (fun z20 => ?_)
        · replace H := H.1 z20
          refine fx_iconst d_FX_unpack_144 ?_
          exact fx_end (some (.int (zI 0))) ⟨⟨_, rfl, rfl⟩, d_FX_unpack_145⟩ (Nat.le_refl _) (Nat.le_refl _) rfl H
        · replace H := H.2 z20
          refine fx_aload_n (i := 0) d_FX_unpack_130 rfl rfl ?_
          refine fx_getR (q := 3) d_FX_unpack_131 lk_FX_21 hf16 rfl rfl ?_
          refine fx_callV (M' := M_BR_onlyFillLeft) (B' := (0, 0)) (vs := []) (rest := []) (c1 := 0) (s1 := 0) (n := 137) d_FX_unpack_134 ca_FX_unpack_60 (at_3 (h := _) hS16) rfl rfl rfl ⟨by decide, by decide⟩ (Nat.le_of_ble_eq_true rfl) (Or.inl rfl) (fx_Mt.mono H fun v h21 hv => ?_)
          obtain ⟨r23, rfl, e22, H⟩ := hv
          have hS21 := e22.trans hS16
          have hf21 : h21.1[f]? = some (hf_a, .inl (9, [none, some 4, some 1, some 3])) := by rw [e22]; exact hf16
          have hp21 : h21.1[p]? = some (hp_a, .inl (10, [some (p + 1), none, none, none])) := by rw [e22]; exact hp16
          have hx21 : h21.1[(p + 1)]? = some (hx_a, .inr (0, 960)) := by rw [e22]; exact hx16
          show fx_V l M_FX_unpack (0, 0) Q 0 0 137 [some (.ref f), some (.ref p), some (.int (zI x2)), some (.int (zI x3)), some (.int (zI x4)), none, none] [.int (zI r23)] h21
          obtain ⟨hz24, H⟩ := H
          refine fx_if_eq (t := 144) (n := 140) d_FX_unpack_137 hz24 (fun z25 => ?_) (fun z25 => ?_)
          · replace H := H.1 z25
            refine fx_iconst d_FX_unpack_144 ?_
            exact fx_end (some (.int (zI 0))) ⟨⟨_, rfl, rfl⟩, d_FX_unpack_145⟩ (Nat.le_refl _) (Nat.le_refl _) rfl H
          · replace H := H.2 z25
            refine fx_iconst d_FX_unpack_140 ?_
            refine fx_goto (n := 145) d_FX_unpack_141 ?_
            exact fx_end (some (.int (zI 1))) ⟨⟨_, rfl, rfl⟩, d_FX_unpack_145⟩ (Nat.le_refl _) (Nat.le_refl _) rfl H
  · replace H := H.2 z3
    refine fx_aload_n (i := 0) d_FX_unpack_9 rfl rfl ?_
    refine fx_getI d_FX_unpack_10 lk_FX_7 hf rfl ?_
    obtain ⟨hz26, H⟩ := H
    refine fx_if_eq (t := 23) (n := 16) d_FX_unpack_13 hz26 (fun z27 => ?_) (fun z27 => ?_)
    · replace H := H.1 z27
      refine fx_iconst d_FX_unpack_23 ?_
      refine fx_istore (ls2 := [some (.ref f), some (.ref p), some (.int (zI x2)), some (.int (zI x3)), some (.int (zI x4)), some (.int (zI 0)), none]) d_FX_unpack_24 (by decide) rfl ?_
      refine fx_iload d_FX_unpack_26 rfl ?_
      refine fx_if_lt (t := 49) (n := 31) d_FX_unpack_28 (show zR 0 by decide) (fun z => absurd (show (0 : Int) < (0 : Int) from z) (by decide)) (fun z => ?_)
      refine fx_aload_n (i := 0) d_FX_unpack_31 rfl rfl ?_
      refine fx_getI d_FX_unpack_32 lk_FX_7 hf rfl ?_
      refine fx_if_eq (t := 51) (n := 38) d_FX_unpack_35 hz26 (fun z28 => ?_) (fun z28 => ?_)
      · replace H := H.1 z28
        refine fx_iload d_FX_unpack_51 rfl ?_
        refine fx_iconst d_FX_unpack_53 ?_
        refine fx_icmp_ne (t := 70) (n := 57) d_FX_unpack_54 (show zR 0 by decide) (show zR 1 by decide) (fun z => ?_) (fun z => absurd (show (0 : Int) = (1 : Int) from z) (by decide))
        refine fx_aload_n (i := 0) d_FX_unpack_70 rfl rfl ?_
        refine fx_getR (q := 4) d_FX_unpack_71 lk_FX_13 hf rfl rfl ?_
        refine fx_aload_n (i := 1) d_FX_unpack_74 rfl rfl ?_
        refine fx_iload d_FX_unpack_75 rfl ?_
        refine fx_iload d_FX_unpack_77 rfl ?_
        refine fx_iload_n (i := 2) d_FX_unpack_79 rfl rfl ?_
        obtain ⟨hz29, H⟩ := H
        refine fx_icmp_ne (t := 87) (n := 83) d_FX_unpack_80 hz1 hz29 (fun z30 => ?_) (fun z30 => ?_)
        · replace H := H.1 z30
          refine fx_iload d_FX_unpack_87 rfl ?_
          refine fx_iconst d_FX_unpack_89 ?_
          refine fx_isub d_FX_unpack_90 ?_
          refine fx_callV (M' := M_LI_unpackByAnother) (B' := (0, 0)) (vs := [.ref p, .int (zI x4), .int (zI (x4 - 1))]) (rest := []) (c1 := 0) (s1 := 0) (n := 94) d_FX_unpack_91 ca_FX_unpack_52 (at_4 (h := _) hS) rfl rfl rfl ⟨by decide, by decide⟩ (Nat.le_of_ble_eq_true rfl) (Or.inl rfl) (fx_Mt.mono H fun v h31 hv => ?_)
          obtain ⟨r33, rfl, e32, H⟩ := hv
          have hS31 := e32.trans hS
          have hf31 : h31.1[f]? = some (hf_a, .inl (9, [none, some 4, some 1, some 3])) := by rw [e32]; exact hf
          have hp31 : h31.1[p]? = some (hp_a, .inl (10, [some (p + 1), none, none, none])) := by rw [e32]; exact hp
          have hx31 : h31.1[(p + 1)]? = some (hx_a, .inr (0, 960)) := by rw [e32]; exact hx
          show fx_V l M_FX_unpack (0, 0) Q 0 0 94 [some (.ref f), some (.ref p), some (.int (zI x2)), some (.int (zI x3)), some (.int (zI x4)), some (.int (zI 0)), none] [.int (zI r33)] h31
          refine fx_istore (ls2 := [some (.ref f), some (.ref p), some (.int (zI x2)), some (.int (zI x3)), some (.int (zI x4)), some (.int (zI 0)), some (.int (zI r33))]) d_FX_unpack_94 (by decide) rfl ?_
          refine fx_iload d_FX_unpack_96 rfl ?_
          obtain ⟨hz34, H⟩ := H
          refine fx_if_ne (t := 103) (n := 101) d_FX_unpack_98 hz34 (fun z35 => ?_) (fun z35 => ?_)
          · replace H := H.1 z35
            refine fx_iinc (v := x4 + 1) (ls2 := [some (.ref f), some (.ref p), some (.int (zI x2)), some (.int (zI x3)), some (.int (zI (x4 + 1))), some (.int (zI 0)), some (.int (zI r33))]) d_FX_unpack_103 rfl rfl (by decide) rfl ?_
            refine fx_goto (n := 3) d_FX_unpack_106 ?_
            exact fx_fewer [some (.ref f), some (.ref p), some (.int (zI x2)), some (.int (zI x3)), some (.int (zI (x4 + 1))), none, none] ⟨rfl, rfl, rfl, rfl, rfl, trivial⟩ H
          · replace H := H.2 z35
            refine fx_iconst d_FX_unpack_101 ?_
            exact fx_end (some (.int (zI 0))) ⟨⟨_, rfl, rfl⟩, d_FX_unpack_102⟩ (Nat.le_refl _) (Nat.le_refl _) rfl H
        · replace H := H.2 z30
          refine fx_iconst d_FX_unpack_83 ?_
          refine fx_goto (n := 91) d_FX_unpack_84 ?_
          refine fx_callV (M' := M_LI_unpackByAnother) (B' := (0, 0)) (vs := [.ref p, .int (zI x4), .int (zI (-1))]) (rest := []) (c1 := 0) (s1 := 0) (n := 94) d_FX_unpack_91 ca_FX_unpack_52 (at_4 (h := _) hS) rfl rfl rfl ⟨by decide, by decide⟩ (Nat.le_of_ble_eq_true rfl) (Or.inl rfl) (fx_Mt.mono H fun v h36 hv => ?_)
          obtain ⟨r38, rfl, e37, H⟩ := hv
          have hS36 := e37.trans hS
          have hf36 : h36.1[f]? = some (hf_a, .inl (9, [none, some 4, some 1, some 3])) := by rw [e37]; exact hf
          have hp36 : h36.1[p]? = some (hp_a, .inl (10, [some (p + 1), none, none, none])) := by rw [e37]; exact hp
          have hx36 : h36.1[(p + 1)]? = some (hx_a, .inr (0, 960)) := by rw [e37]; exact hx
          show fx_V l M_FX_unpack (0, 0) Q 0 0 94 [some (.ref f), some (.ref p), some (.int (zI x2)), some (.int (zI x3)), some (.int (zI x4)), some (.int (zI 0)), none] [.int (zI r38)] h36
          refine fx_istore (ls2 := [some (.ref f), some (.ref p), some (.int (zI x2)), some (.int (zI x3)), some (.int (zI x4)), some (.int (zI 0)), some (.int (zI r38))]) d_FX_unpack_94 (by decide) rfl ?_
          refine fx_iload d_FX_unpack_96 rfl ?_
          obtain ⟨hz39, H⟩ := H
          refine fx_if_ne (t := 103) (n := 101) d_FX_unpack_98 hz39 (fun z40 => ?_) (fun z40 => ?_)
          · replace H := H.1 z40
            refine fx_iinc (v := x4 + 1) (ls2 := [some (.ref f), some (.ref p), some (.int (zI x2)), some (.int (zI x3)), some (.int (zI (x4 + 1))), some (.int (zI 0)), some (.int (zI r38))]) d_FX_unpack_103 rfl rfl (by decide) rfl ?_
            refine fx_goto (n := 3) d_FX_unpack_106 ?_
            exact fx_fewer [some (.ref f), some (.ref p), some (.int (zI x2)), some (.int (zI x3)), some (.int (zI (x4 + 1))), none, none] ⟨rfl, rfl, rfl, rfl, rfl, trivial⟩ H
          · replace H := H.2 z40
            refine fx_iconst d_FX_unpack_101 ?_
            exact fx_end (some (.int (zI 0))) ⟨⟨_, rfl, rfl⟩, d_FX_unpack_102⟩ (Nat.le_refl _) (Nat.le_refl _) rfl H
      · replace H := H.2 z28
        refine fx_iload d_FX_unpack_38 rfl ?_
        refine fx_iload_n (i := 2) d_FX_unpack_40 rfl rfl ?_
        obtain ⟨hz41, H⟩ := H
        refine fx_icmp_ne (t := 51) (n := 44) d_FX_unpack_41 hz1 hz41 (fun z42 => ?_) (fun z42 => ?_)
        · replace H := H.1 z42
          refine fx_iload d_FX_unpack_51 rfl ?_
          refine fx_iconst d_FX_unpack_53 ?_
          refine fx_icmp_ne (t := 70) (n := 57) d_FX_unpack_54 (show zR 0 by decide) (show zR 1 by decide) (fun z => ?_) (fun z => absurd (show (0 : Int) = (1 : Int) from z) (by decide))
          refine fx_aload_n (i := 0) d_FX_unpack_70 rfl rfl ?_
          refine fx_getR (q := 4) d_FX_unpack_71 lk_FX_13 hf rfl rfl ?_
          refine fx_aload_n (i := 1) d_FX_unpack_74 rfl rfl ?_
          refine fx_iload d_FX_unpack_75 rfl ?_
          refine fx_iload d_FX_unpack_77 rfl ?_
          refine fx_iload_n (i := 2) d_FX_unpack_79 rfl rfl ?_
          refine fx_icmp_ne (t := 87) (n := 83) d_FX_unpack_80 hz1 hz41 (fun z43 => ?_) (fun z43 => ?_)
          · replace H := H.1 z43
            refine fx_iload d_FX_unpack_87 rfl ?_
            refine fx_iconst d_FX_unpack_89 ?_
            refine fx_isub d_FX_unpack_90 ?_
            refine fx_callV (M' := M_LI_unpackByAnother) (B' := (0, 0)) (vs := [.ref p, .int (zI x4), .int (zI (x4 - 1))]) (rest := []) (c1 := 0) (s1 := 0) (n := 94) d_FX_unpack_91 ca_FX_unpack_52 (at_4 (h := _) hS) rfl rfl rfl ⟨by decide, by decide⟩ (Nat.le_of_ble_eq_true rfl) (Or.inl rfl) (fx_Mt.mono H fun v h44 hv => ?_)
            obtain ⟨r46, rfl, e45, H⟩ := hv
            have hS44 := e45.trans hS
            have hf44 : h44.1[f]? = some (hf_a, .inl (9, [none, some 4, some 1, some 3])) := by rw [e45]; exact hf
            have hp44 : h44.1[p]? = some (hp_a, .inl (10, [some (p + 1), none, none, none])) := by rw [e45]; exact hp
            have hx44 : h44.1[(p + 1)]? = some (hx_a, .inr (0, 960)) := by rw [e45]; exact hx
            show fx_V l M_FX_unpack (0, 0) Q 0 0 94 [some (.ref f), some (.ref p), some (.int (zI x2)), some (.int (zI x3)), some (.int (zI x4)), some (.int (zI 0)), none] [.int (zI r46)] h44
            refine fx_istore (ls2 := [some (.ref f), some (.ref p), some (.int (zI x2)), some (.int (zI x3)), some (.int (zI x4)), some (.int (zI 0)), some (.int (zI r46))]) d_FX_unpack_94 (by decide) rfl ?_
            refine fx_iload d_FX_unpack_96 rfl ?_
            obtain ⟨hz47, H⟩ := H
            refine fx_if_ne (t := 103) (n := 101) d_FX_unpack_98 hz47 (fun z48 => ?_) (fun z48 => ?_)
            · replace H := H.1 z48
              refine fx_iinc (v := x4 + 1) (ls2 := [some (.ref f), some (.ref p), some (.int (zI x2)), some (.int (zI x3)), some (.int (zI (x4 + 1))), some (.int (zI 0)), some (.int (zI r46))]) d_FX_unpack_103 rfl rfl (by decide) rfl ?_
              refine fx_goto (n := 3) d_FX_unpack_106 ?_
              exact fx_fewer [some (.ref f), some (.ref p), some (.int (zI x2)), some (.int (zI x3)), some (.int (zI (x4 + 1))), none, none] ⟨rfl, rfl, rfl, rfl, rfl, trivial⟩ H
            · replace H := H.2 z48
              refine fx_iconst d_FX_unpack_101 ?_
              exact fx_end (some (.int (zI 0))) ⟨⟨_, rfl, rfl⟩, d_FX_unpack_102⟩ (Nat.le_refl _) (Nat.le_refl _) rfl H
          · replace H := H.2 z43
            refine fx_iconst d_FX_unpack_83 ?_
            refine fx_goto (n := 91) d_FX_unpack_84 ?_
            refine fx_callV (M' := M_LI_unpackByAnother) (B' := (0, 0)) (vs := [.ref p, .int (zI x4), .int (zI (-1))]) (rest := []) (c1 := 0) (s1 := 0) (n := 94) d_FX_unpack_91 ca_FX_unpack_52 (at_4 (h := _) hS) rfl rfl rfl ⟨by decide, by decide⟩ (Nat.le_of_ble_eq_true rfl) (Or.inl rfl) (fx_Mt.mono H fun v h49 hv => ?_)
            obtain ⟨r51, rfl, e50, H⟩ := hv
            have hS49 := e50.trans hS
            have hf49 : h49.1[f]? = some (hf_a, .inl (9, [none, some 4, some 1, some 3])) := by rw [e50]; exact hf
            have hp49 : h49.1[p]? = some (hp_a, .inl (10, [some (p + 1), none, none, none])) := by rw [e50]; exact hp
            have hx49 : h49.1[(p + 1)]? = some (hx_a, .inr (0, 960)) := by rw [e50]; exact hx
            show fx_V l M_FX_unpack (0, 0) Q 0 0 94 [some (.ref f), some (.ref p), some (.int (zI x2)), some (.int (zI x3)), some (.int (zI x4)), some (.int (zI 0)), none] [.int (zI r51)] h49
            refine fx_istore (ls2 := [some (.ref f), some (.ref p), some (.int (zI x2)), some (.int (zI x3)), some (.int (zI x4)), some (.int (zI 0)), some (.int (zI r51))]) d_FX_unpack_94 (by decide) rfl ?_
            refine fx_iload d_FX_unpack_96 rfl ?_
            obtain ⟨hz52, H⟩ := H
            refine fx_if_ne (t := 103) (n := 101) d_FX_unpack_98 hz52 (fun z53 => ?_) (fun z53 => ?_)
            · replace H := H.1 z53
              refine fx_iinc (v := x4 + 1) (ls2 := [some (.ref f), some (.ref p), some (.int (zI x2)), some (.int (zI x3)), some (.int (zI (x4 + 1))), some (.int (zI 0)), some (.int (zI r51))]) d_FX_unpack_103 rfl rfl (by decide) rfl ?_
              refine fx_goto (n := 3) d_FX_unpack_106 ?_
              exact fx_fewer [some (.ref f), some (.ref p), some (.int (zI x2)), some (.int (zI x3)), some (.int (zI (x4 + 1))), none, none] ⟨rfl, rfl, rfl, rfl, rfl, trivial⟩ H
            · replace H := H.2 z53
              refine fx_iconst d_FX_unpack_101 ?_
              exact fx_end (some (.int (zI 0))) ⟨⟨_, rfl, rfl⟩, d_FX_unpack_102⟩ (Nat.le_refl _) (Nat.le_refl _) rfl H
        · replace H := H.2 z42
          refine fx_iload d_FX_unpack_44 rfl ?_
          refine fx_if_ne (t := 51) (n := 49) d_FX_unpack_46 (show zR 0 by decide) (fun z => absurd (show ¬ (0 : Int) = (0 : Int) from z) (by decide)) (fun z => ?_)
          refine fx_iconst d_FX_unpack_49 ?_
          exact fx_end (some (.int (zI 0))) ⟨⟨_, rfl, rfl⟩, d_FX_unpack_50⟩ (Nat.le_refl _) (Nat.le_refl _) rfl H
    · replace H := H.2 z27
      refine fx_aload_n (i := 0) d_FX_unpack_16 rfl rfl ?_
      refine fx_callV (M' := M_FX_markedLine) (B' := (0, 0)) (vs := []) (rest := []) (c1 := 0) (s1 := 0) (n := 20) d_FX_unpack_17 ca_FX_unpack_44 hf rfl rfl rfl ⟨by decide, by decide⟩ (Nat.le_of_ble_eq_true rfl) (Or.inl rfl) (fx_Mt.mono H fun v h54 hv => ?_)
      obtain ⟨r56, rfl, e55, H⟩ := hv
      have hS54 := e55.trans hS
      have hf54 : h54.1[f]? = some (hf_a, .inl (9, [none, some 4, some 1, some 3])) := by rw [e55]; exact hf
      have hp54 : h54.1[p]? = some (hp_a, .inl (10, [some (p + 1), none, none, none])) := by rw [e55]; exact hp
      have hx54 : h54.1[(p + 1)]? = some (hx_a, .inr (0, 960)) := by rw [e55]; exact hx
      show fx_V l M_FX_unpack (0, 0) Q 0 0 20 [some (.ref f), some (.ref p), some (.int (zI x2)), some (.int (zI x3)), some (.int (zI x4)), none, none] [.int (zI r56)] h54
      refine fx_goto (n := 24) d_FX_unpack_20 ?_
      refine fx_istore (ls2 := [some (.ref f), some (.ref p), some (.int (zI x2)), some (.int (zI x3)), some (.int (zI x4)), some (.int (zI r56)), none]) d_FX_unpack_24 (by decide) rfl ?_
      refine fx_iload d_FX_unpack_26 rfl ?_
      obtain ⟨hz57, H⟩ := H
      refine fx_if_lt (t := 49) (n := 31) d_FX_unpack_28 hz57 (fun z58 => ?_) (fun z58 => ?_)
      · replace H := H.1 z58
        refine fx_iconst d_FX_unpack_49 ?_
        exact fx_end (some (.int (zI 0))) ⟨⟨_, rfl, rfl⟩, d_FX_unpack_50⟩ (Nat.le_refl _) (Nat.le_refl _) rfl H
      · replace H := H.2 z58
        refine fx_aload_n (i := 0) d_FX_unpack_31 rfl rfl ?_
        refine fx_getI d_FX_unpack_32 lk_FX_7 hf54 rfl ?_
        obtain ⟨hz59, H⟩ := H
        refine fx_if_eq (t := 51) (n := 38) d_FX_unpack_35 hz59 (fun z60 => ?_) (fun z60 => ?_)
        · replace H := H.1 z60
          refine fx_iload d_FX_unpack_51 rfl ?_
          refine fx_iconst d_FX_unpack_53 ?_
          refine fx_icmp_ne (t := 70) (n := 57) d_FX_unpack_54 hz57 (show zR 1 by decide) (fun z61 => ?_) (fun z61 => ?_)
          · replace H := H.1 z61
            refine fx_aload_n (i := 0) d_FX_unpack_70 rfl rfl ?_
            refine fx_getR (q := 4) d_FX_unpack_71 lk_FX_13 hf54 rfl rfl ?_
            refine fx_aload_n (i := 1) d_FX_unpack_74 rfl rfl ?_
            refine fx_iload d_FX_unpack_75 rfl ?_
            refine fx_iload d_FX_unpack_77 rfl ?_
            refine fx_iload_n (i := 2) d_FX_unpack_79 rfl rfl ?_
            obtain ⟨hz62, H⟩ := H
            refine fx_icmp_ne (t := 87) (n := 83) d_FX_unpack_80 hz1 hz62 (fun z63 => ?_) (fun z63 => ?_)
            · replace H := H.1 z63
              refine fx_iload d_FX_unpack_87 rfl ?_
              refine fx_iconst d_FX_unpack_89 ?_
              refine fx_isub d_FX_unpack_90 ?_
              refine fx_callV (M' := M_LI_unpackByAnother) (B' := (0, 0)) (vs := [.ref p, .int (zI x4), .int (zI (x4 - 1))]) (rest := []) (c1 := 0) (s1 := 0) (n := 94) d_FX_unpack_91 ca_FX_unpack_52 (at_4 (h := _) hS54) rfl rfl rfl ⟨by decide, by decide⟩ (Nat.le_of_ble_eq_true rfl) (Or.inl rfl) (fx_Mt.mono H fun v h64 hv => ?_)
              obtain ⟨r66, rfl, e65, H⟩ := hv
              have hS64 := e65.trans hS54
              have hf64 : h64.1[f]? = some (hf_a, .inl (9, [none, some 4, some 1, some 3])) := by rw [e65]; exact hf54
              have hp64 : h64.1[p]? = some (hp_a, .inl (10, [some (p + 1), none, none, none])) := by rw [e65]; exact hp54
              have hx64 : h64.1[(p + 1)]? = some (hx_a, .inr (0, 960)) := by rw [e65]; exact hx54
              show fx_V l M_FX_unpack (0, 0) Q 0 0 94 [some (.ref f), some (.ref p), some (.int (zI x2)), some (.int (zI x3)), some (.int (zI x4)), some (.int (zI r56)), none] [.int (zI r66)] h64
              refine fx_istore (ls2 := [some (.ref f), some (.ref p), some (.int (zI x2)), some (.int (zI x3)), some (.int (zI x4)), some (.int (zI r56)), some (.int (zI r66))]) d_FX_unpack_94 (by decide) rfl ?_
              refine fx_iload d_FX_unpack_96 rfl ?_
              obtain ⟨hz67, H⟩ := H
              refine fx_if_ne (t := 103) (n := 101) d_FX_unpack_98 hz67 (fun z68 => ?_) (fun z68 => ?_)
              · replace H := H.1 z68
                refine fx_iinc (v := x4 + 1) (ls2 := [some (.ref f), some (.ref p), some (.int (zI x2)), some (.int (zI x3)), some (.int (zI (x4 + 1))), some (.int (zI r56)), some (.int (zI r66))]) d_FX_unpack_103 rfl rfl (by decide) rfl ?_
                refine fx_goto (n := 3) d_FX_unpack_106 ?_
                exact fx_fewer [some (.ref f), some (.ref p), some (.int (zI x2)), some (.int (zI x3)), some (.int (zI (x4 + 1))), none, none] ⟨rfl, rfl, rfl, rfl, rfl, trivial⟩ H
              · replace H := H.2 z68
                refine fx_iconst d_FX_unpack_101 ?_
                exact fx_end (some (.int (zI 0))) ⟨⟨_, rfl, rfl⟩, d_FX_unpack_102⟩ (Nat.le_refl _) (Nat.le_refl _) rfl H
            · replace H := H.2 z63
              refine fx_iconst d_FX_unpack_83 ?_
              refine fx_goto (n := 91) d_FX_unpack_84 ?_
              refine fx_callV (M' := M_LI_unpackByAnother) (B' := (0, 0)) (vs := [.ref p, .int (zI x4), .int (zI (-1))]) (rest := []) (c1 := 0) (s1 := 0) (n := 94) d_FX_unpack_91 ca_FX_unpack_52 (at_4 (h := _) hS54) rfl rfl rfl ⟨by decide, by decide⟩ (Nat.le_of_ble_eq_true rfl) (Or.inl rfl) (fx_Mt.mono H fun v h69 hv => ?_)
              obtain ⟨r71, rfl, e70, H⟩ := hv
              have hS69 := e70.trans hS54
              have hf69 : h69.1[f]? = some (hf_a, .inl (9, [none, some 4, some 1, some 3])) := by rw [e70]; exact hf54
              have hp69 : h69.1[p]? = some (hp_a, .inl (10, [some (p + 1), none, none, none])) := by rw [e70]; exact hp54
              have hx69 : h69.1[(p + 1)]? = some (hx_a, .inr (0, 960)) := by rw [e70]; exact hx54
              show fx_V l M_FX_unpack (0, 0) Q 0 0 94 [some (.ref f), some (.ref p), some (.int (zI x2)), some (.int (zI x3)), some (.int (zI x4)), some (.int (zI r56)), none] [.int (zI r71)] h69
              refine fx_istore (ls2 := [some (.ref f), some (.ref p), some (.int (zI x2)), some (.int (zI x3)), some (.int (zI x4)), some (.int (zI r56)), some (.int (zI r71))]) d_FX_unpack_94 (by decide) rfl ?_
              refine fx_iload d_FX_unpack_96 rfl ?_
              obtain ⟨hz72, H⟩ := H
              refine fx_if_ne (t := 103) (n := 101) d_FX_unpack_98 hz72 (fun z73 => ?_) (fun z73 => ?_)
              · replace H := H.1 z73
                refine fx_iinc (v := x4 + 1) (ls2 := [some (.ref f), some (.ref p), some (.int (zI x2)), some (.int (zI x3)), some (.int (zI (x4 + 1))), some (.int (zI r56)), some (.int (zI r71))]) d_FX_unpack_103 rfl rfl (by decide) rfl ?_
                refine fx_goto (n := 3) d_FX_unpack_106 ?_
                exact fx_fewer [some (.ref f), some (.ref p), some (.int (zI x2)), some (.int (zI x3)), some (.int (zI (x4 + 1))), none, none] ⟨rfl, rfl, rfl, rfl, rfl, trivial⟩ H
              · replace H := H.2 z73
                refine fx_iconst d_FX_unpack_101 ?_
                exact fx_end (some (.int (zI 0))) ⟨⟨_, rfl, rfl⟩, d_FX_unpack_102⟩ (Nat.le_refl _) (Nat.le_refl _) rfl H
          · replace H := H.2 z61
            refine fx_aload_n (i := 0) d_FX_unpack_57 rfl rfl ?_
            refine fx_getR (q := 4) d_FX_unpack_58 lk_FX_13 hf54 rfl rfl ?_
            refine fx_aload_n (i := 1) d_FX_unpack_61 rfl rfl ?_
            refine fx_iload d_FX_unpack_62 rfl ?_
            refine fx_callV (M' := M_LI_unpackByItself) (B' := (0, 0)) (vs := [.ref p, .int (zI x4)]) (rest := []) (c1 := 0) (s1 := 0) (n := 67) d_FX_unpack_64 ca_FX_unpack_48 (at_4 (h := _) hS54) rfl rfl rfl ⟨by decide, by decide⟩ (Nat.le_of_ble_eq_true rfl) (Or.inl rfl) (fx_Mt.mono H fun v h74 hv => ?_)
            obtain ⟨r76, rfl, e75, H⟩ := hv
            have hS74 := e75.trans hS54
            have hf74 : h74.1[f]? = some (hf_a, .inl (9, [none, some 4, some 1, some 3])) := by rw [e75]; exact hf54
            have hp74 : h74.1[p]? = some (hp_a, .inl (10, [some (p + 1), none, none, none])) := by rw [e75]; exact hp54
            have hx74 : h74.1[(p + 1)]? = some (hx_a, .inr (0, 960)) := by rw [e75]; exact hx54
            show fx_V l M_FX_unpack (0, 0) Q 0 0 67 [some (.ref f), some (.ref p), some (.int (zI x2)), some (.int (zI x3)), some (.int (zI x4)), some (.int (zI r56)), none] [.int (zI r76)] h74
            refine fx_goto (n := 94) d_FX_unpack_67 ?_
            refine fx_istore (ls2 := [some (.ref f), some (.ref p), some (.int (zI x2)), some (.int (zI x3)), some (.int (zI x4)), some (.int (zI r56)), some (.int (zI r76))]) d_FX_unpack_94 (by decide) rfl ?_
            refine fx_iload d_FX_unpack_96 rfl ?_
            obtain ⟨hz77, H⟩ := H
            refine fx_if_ne (t := 103) (n := 101) d_FX_unpack_98 hz77 (fun z78 => ?_) (fun z78 => ?_)
            · replace H := H.1 z78
              refine fx_iinc (v := x4 + 1) (ls2 := [some (.ref f), some (.ref p), some (.int (zI x2)), some (.int (zI x3)), some (.int (zI (x4 + 1))), some (.int (zI r56)), some (.int (zI r76))]) d_FX_unpack_103 rfl rfl (by decide) rfl ?_
              refine fx_goto (n := 3) d_FX_unpack_106 ?_
              exact fx_fewer [some (.ref f), some (.ref p), some (.int (zI x2)), some (.int (zI x3)), some (.int (zI (x4 + 1))), none, none] ⟨rfl, rfl, rfl, rfl, rfl, trivial⟩ H
            · replace H := H.2 z78
              refine fx_iconst d_FX_unpack_101 ?_
              exact fx_end (some (.int (zI 0))) ⟨⟨_, rfl, rfl⟩, d_FX_unpack_102⟩ (Nat.le_refl _) (Nat.le_refl _) rfl H
        · replace H := H.2 z60
          refine fx_iload d_FX_unpack_38 rfl ?_
          refine fx_iload_n (i := 2) d_FX_unpack_40 rfl rfl ?_
          obtain ⟨hz79, H⟩ := H
          refine fx_icmp_ne (t := 51) (n := 44) d_FX_unpack_41 hz1 hz79 (fun z80 => ?_) (fun z80 => ?_)
          · replace H := H.1 z80
            refine fx_iload d_FX_unpack_51 rfl ?_
            refine fx_iconst d_FX_unpack_53 ?_
            refine fx_icmp_ne (t := 70) (n := 57) d_FX_unpack_54 hz57 (show zR 1 by decide) (fun z81 => ?_) (fun z81 => ?_)
            · replace H := H.1 z81
              refine fx_aload_n (i := 0) d_FX_unpack_70 rfl rfl ?_
              refine fx_getR (q := 4) d_FX_unpack_71 lk_FX_13 hf54 rfl rfl ?_
              refine fx_aload_n (i := 1) d_FX_unpack_74 rfl rfl ?_
              refine fx_iload d_FX_unpack_75 rfl ?_
              refine fx_iload d_FX_unpack_77 rfl ?_
              refine fx_iload_n (i := 2) d_FX_unpack_79 rfl rfl ?_
              refine fx_icmp_ne (t := 87) (n := 83) d_FX_unpack_80 hz1 hz79 (fun z82 => ?_) (fun z82 => ?_)
              · replace H := H.1 z82
                refine fx_iload d_FX_unpack_87 rfl ?_
                refine fx_iconst d_FX_unpack_89 ?_
                refine fx_isub d_FX_unpack_90 ?_
                refine fx_callV (M' := M_LI_unpackByAnother) (B' := (0, 0)) (vs := [.ref p, .int (zI x4), .int (zI (x4 - 1))]) (rest := []) (c1 := 0) (s1 := 0) (n := 94) d_FX_unpack_91 ca_FX_unpack_52 (at_4 (h := _) hS54) rfl rfl rfl ⟨by decide, by decide⟩ (Nat.le_of_ble_eq_true rfl) (Or.inl rfl) (fx_Mt.mono H fun v h83 hv => ?_)
                obtain ⟨r85, rfl, e84, H⟩ := hv
                have hS83 := e84.trans hS54
                have hf83 : h83.1[f]? = some (hf_a, .inl (9, [none, some 4, some 1, some 3])) := by rw [e84]; exact hf54
                have hp83 : h83.1[p]? = some (hp_a, .inl (10, [some (p + 1), none, none, none])) := by rw [e84]; exact hp54
                have hx83 : h83.1[(p + 1)]? = some (hx_a, .inr (0, 960)) := by rw [e84]; exact hx54
                show fx_V l M_FX_unpack (0, 0) Q 0 0 94 [some (.ref f), some (.ref p), some (.int (zI x2)), some (.int (zI x3)), some (.int (zI x4)), some (.int (zI r56)), none] [.int (zI r85)] h83
                refine fx_istore (ls2 := [some (.ref f), some (.ref p), some (.int (zI x2)), some (.int (zI x3)), some (.int (zI x4)), some (.int (zI r56)), some (.int (zI r85))]) d_FX_unpack_94 (by decide) rfl ?_
                refine fx_iload d_FX_unpack_96 rfl ?_
                obtain ⟨hz86, H⟩ := H
                refine fx_if_ne (t := 103) (n := 101) d_FX_unpack_98 hz86 (fun z87 => ?_) (fun z87 => ?_)
                · replace H := H.1 z87
                  refine fx_iinc (v := x4 + 1) (ls2 := [some (.ref f), some (.ref p), some (.int (zI x2)), some (.int (zI x3)), some (.int (zI (x4 + 1))), some (.int (zI r56)), some (.int (zI r85))]) d_FX_unpack_103 rfl rfl (by decide) rfl ?_
                  refine fx_goto (n := 3) d_FX_unpack_106 ?_
                  exact fx_fewer [some (.ref f), some (.ref p), some (.int (zI x2)), some (.int (zI x3)), some (.int (zI (x4 + 1))), none, none] ⟨rfl, rfl, rfl, rfl, rfl, trivial⟩ H
                · replace H := H.2 z87
                  refine fx_iconst d_FX_unpack_101 ?_
                  exact fx_end (some (.int (zI 0))) ⟨⟨_, rfl, rfl⟩, d_FX_unpack_102⟩ (Nat.le_refl _) (Nat.le_refl _) rfl H
              · replace H := H.2 z82
                refine fx_iconst d_FX_unpack_83 ?_
                refine fx_goto (n := 91) d_FX_unpack_84 ?_
                refine fx_callV (M' := M_LI_unpackByAnother) (B' := (0, 0)) (vs := [.ref p, .int (zI x4), .int (zI (-1))]) (rest := []) (c1 := 0) (s1 := 0) (n := 94) d_FX_unpack_91 ca_FX_unpack_52 (at_4 (h := _) hS54) rfl rfl rfl ⟨by decide, by decide⟩ (Nat.le_of_ble_eq_true rfl) (Or.inl rfl) (fx_Mt.mono H fun v h88 hv => ?_)
                obtain ⟨r90, rfl, e89, H⟩ := hv
                have hS88 := e89.trans hS54
                have hf88 : h88.1[f]? = some (hf_a, .inl (9, [none, some 4, some 1, some 3])) := by rw [e89]; exact hf54
                have hp88 : h88.1[p]? = some (hp_a, .inl (10, [some (p + 1), none, none, none])) := by rw [e89]; exact hp54
                have hx88 : h88.1[(p + 1)]? = some (hx_a, .inr (0, 960)) := by rw [e89]; exact hx54
                show fx_V l M_FX_unpack (0, 0) Q 0 0 94 [some (.ref f), some (.ref p), some (.int (zI x2)), some (.int (zI x3)), some (.int (zI x4)), some (.int (zI r56)), none] [.int (zI r90)] h88
                refine fx_istore (ls2 := [some (.ref f), some (.ref p), some (.int (zI x2)), some (.int (zI x3)), some (.int (zI x4)), some (.int (zI r56)), some (.int (zI r90))]) d_FX_unpack_94 (by decide) rfl ?_
                refine fx_iload d_FX_unpack_96 rfl ?_
                obtain ⟨hz91, H⟩ := H
                refine fx_if_ne (t := 103) (n := 101) d_FX_unpack_98 hz91 (fun z92 => ?_) (fun z92 => ?_)
                · replace H := H.1 z92
                  refine fx_iinc (v := x4 + 1) (ls2 := [some (.ref f), some (.ref p), some (.int (zI x2)), some (.int (zI x3)), some (.int (zI (x4 + 1))), some (.int (zI r56)), some (.int (zI r90))]) d_FX_unpack_103 rfl rfl (by decide) rfl ?_
                  refine fx_goto (n := 3) d_FX_unpack_106 ?_
                  exact fx_fewer [some (.ref f), some (.ref p), some (.int (zI x2)), some (.int (zI x3)), some (.int (zI (x4 + 1))), none, none] ⟨rfl, rfl, rfl, rfl, rfl, trivial⟩ H
                · replace H := H.2 z92
                  refine fx_iconst d_FX_unpack_101 ?_
                  exact fx_end (some (.int (zI 0))) ⟨⟨_, rfl, rfl⟩, d_FX_unpack_102⟩ (Nat.le_refl _) (Nat.le_refl _) rfl H
            · replace H := H.2 z81
              refine fx_aload_n (i := 0) d_FX_unpack_57 rfl rfl ?_
              refine fx_getR (q := 4) d_FX_unpack_58 lk_FX_13 hf54 rfl rfl ?_
              refine fx_aload_n (i := 1) d_FX_unpack_61 rfl rfl ?_
              refine fx_iload d_FX_unpack_62 rfl ?_
              refine fx_callV (M' := M_LI_unpackByItself) (B' := (0, 0)) (vs := [.ref p, .int (zI x4)]) (rest := []) (c1 := 0) (s1 := 0) (n := 67) d_FX_unpack_64 ca_FX_unpack_48 (at_4 (h := _) hS54) rfl rfl rfl ⟨by decide, by decide⟩ (Nat.le_of_ble_eq_true rfl) (Or.inl rfl) (fx_Mt.mono H fun v h93 hv => ?_)
              obtain ⟨r95, rfl, e94, H⟩ := hv
              have hS93 := e94.trans hS54
              have hf93 : h93.1[f]? = some (hf_a, .inl (9, [none, some 4, some 1, some 3])) := by rw [e94]; exact hf54
              have hp93 : h93.1[p]? = some (hp_a, .inl (10, [some (p + 1), none, none, none])) := by rw [e94]; exact hp54
              have hx93 : h93.1[(p + 1)]? = some (hx_a, .inr (0, 960)) := by rw [e94]; exact hx54
              show fx_V l M_FX_unpack (0, 0) Q 0 0 67 [some (.ref f), some (.ref p), some (.int (zI x2)), some (.int (zI x3)), some (.int (zI x4)), some (.int (zI r56)), none] [.int (zI r95)] h93
              refine fx_goto (n := 94) d_FX_unpack_67 ?_
              refine fx_istore (ls2 := [some (.ref f), some (.ref p), some (.int (zI x2)), some (.int (zI x3)), some (.int (zI x4)), some (.int (zI r56)), some (.int (zI r95))]) d_FX_unpack_94 (by decide) rfl ?_
              refine fx_iload d_FX_unpack_96 rfl ?_
              obtain ⟨hz96, H⟩ := H
              refine fx_if_ne (t := 103) (n := 101) d_FX_unpack_98 hz96 (fun z97 => ?_) (fun z97 => ?_)
              · replace H := H.1 z97
                refine fx_iinc (v := x4 + 1) (ls2 := [some (.ref f), some (.ref p), some (.int (zI x2)), some (.int (zI x3)), some (.int (zI (x4 + 1))), some (.int (zI r56)), some (.int (zI r95))]) d_FX_unpack_103 rfl rfl (by decide) rfl ?_
                refine fx_goto (n := 3) d_FX_unpack_106 ?_
                exact fx_fewer [some (.ref f), some (.ref p), some (.int (zI x2)), some (.int (zI x3)), some (.int (zI (x4 + 1))), none, none] ⟨rfl, rfl, rfl, rfl, rfl, trivial⟩ H
              · replace H := H.2 z97
                refine fx_iconst d_FX_unpack_101 ?_
                exact fx_end (some (.int (zI 0))) ⟨⟨_, rfl, rfl⟩, d_FX_unpack_102⟩ (Nat.le_refl _) (Nat.le_refl _) rfl H
          · replace H := H.2 z80
            refine fx_iload d_FX_unpack_44 rfl ?_
            refine fx_if_ne (t := 51) (n := 49) d_FX_unpack_46 hz57 (fun z98 => ?_) (fun z98 => ?_)
            · replace H := H.1 z98
              refine fx_iload d_FX_unpack_51 rfl ?_
              refine fx_iconst d_FX_unpack_53 ?_
              refine fx_icmp_ne (t := 70) (n := 57) d_FX_unpack_54 hz57 (show zR 1 by decide) (fun z99 => ?_) (fun z99 => ?_)
              · replace H := H.1 z99
                refine fx_aload_n (i := 0) d_FX_unpack_70 rfl rfl ?_
                refine fx_getR (q := 4) d_FX_unpack_71 lk_FX_13 hf54 rfl rfl ?_
                refine fx_aload_n (i := 1) d_FX_unpack_74 rfl rfl ?_
                refine fx_iload d_FX_unpack_75 rfl ?_
                refine fx_iload d_FX_unpack_77 rfl ?_
                refine fx_iload_n (i := 2) d_FX_unpack_79 rfl rfl ?_
                refine fx_icmp_ne (t := 87) (n := 83) d_FX_unpack_80 hz1 hz79 (fun z100 => ?_) (fun z100 => ?_)
                · replace H := H.1 z100
                  refine fx_iload d_FX_unpack_87 rfl ?_
                  refine fx_iconst d_FX_unpack_89 ?_
                  refine fx_isub d_FX_unpack_90 ?_
                  refine fx_callV (M' := M_LI_unpackByAnother) (B' := (0, 0)) (vs := [.ref p, .int (zI x4), .int (zI (x4 - 1))]) (rest := []) (c1 := 0) (s1 := 0) (n := 94) d_FX_unpack_91 ca_FX_unpack_52 (at_4 (h := _) hS54) rfl rfl rfl ⟨by decide, by decide⟩ (Nat.le_of_ble_eq_true rfl) (Or.inl rfl) (fx_Mt.mono H fun v h101 hv => ?_)
                  obtain ⟨r103, rfl, e102, H⟩ := hv
                  have hS101 := e102.trans hS54
                  have hf101 : h101.1[f]? = some (hf_a, .inl (9, [none, some 4, some 1, some 3])) := by rw [e102]; exact hf54
                  have hp101 : h101.1[p]? = some (hp_a, .inl (10, [some (p + 1), none, none, none])) := by rw [e102]; exact hp54
                  have hx101 : h101.1[(p + 1)]? = some (hx_a, .inr (0, 960)) := by rw [e102]; exact hx54
                  show fx_V l M_FX_unpack (0, 0) Q 0 0 94 [some (.ref f), some (.ref p), some (.int (zI x2)), some (.int (zI x3)), some (.int (zI x4)), some (.int (zI r56)), none] [.int (zI r103)] h101
                  refine fx_istore (ls2 := [some (.ref f), some (.ref p), some (.int (zI x2)), some (.int (zI x3)), some (.int (zI x4)), some (.int (zI r56)), some (.int (zI r103))]) d_FX_unpack_94 (by decide) rfl ?_
                  refine fx_iload d_FX_unpack_96 rfl ?_
                  obtain ⟨hz104, H⟩ := H
                  refine fx_if_ne (t := 103) (n := 101) d_FX_unpack_98 hz104 (fun z105 => ?_) (fun z105 => ?_)
                  · replace H := H.1 z105
                    refine fx_iinc (v := x4 + 1) (ls2 := [some (.ref f), some (.ref p), some (.int (zI x2)), some (.int (zI x3)), some (.int (zI (x4 + 1))), some (.int (zI r56)), some (.int (zI r103))]) d_FX_unpack_103 rfl rfl (by decide) rfl ?_
                    refine fx_goto (n := 3) d_FX_unpack_106 ?_
                    exact fx_fewer [some (.ref f), some (.ref p), some (.int (zI x2)), some (.int (zI x3)), some (.int (zI (x4 + 1))), none, none] ⟨rfl, rfl, rfl, rfl, rfl, trivial⟩ H
                  · replace H := H.2 z105
                    refine fx_iconst d_FX_unpack_101 ?_
                    exact fx_end (some (.int (zI 0))) ⟨⟨_, rfl, rfl⟩, d_FX_unpack_102⟩ (Nat.le_refl _) (Nat.le_refl _) rfl H
                · replace H := H.2 z100
                  refine fx_iconst d_FX_unpack_83 ?_
                  refine fx_goto (n := 91) d_FX_unpack_84 ?_
                  refine fx_callV (M' := M_LI_unpackByAnother) (B' := (0, 0)) (vs := [.ref p, .int (zI x4), .int (zI (-1))]) (rest := []) (c1 := 0) (s1 := 0) (n := 94) d_FX_unpack_91 ca_FX_unpack_52 (at_4 (h := _) hS54) rfl rfl rfl ⟨by decide, by decide⟩ (Nat.le_of_ble_eq_true rfl) (Or.inl rfl) (fx_Mt.mono H fun v h106 hv => ?_)
                  obtain ⟨r108, rfl, e107, H⟩ := hv
                  have hS106 := e107.trans hS54
                  have hf106 : h106.1[f]? = some (hf_a, .inl (9, [none, some 4, some 1, some 3])) := by rw [e107]; exact hf54
                  have hp106 : h106.1[p]? = some (hp_a, .inl (10, [some (p + 1), none, none, none])) := by rw [e107]; exact hp54
                  have hx106 : h106.1[(p + 1)]? = some (hx_a, .inr (0, 960)) := by rw [e107]; exact hx54
                  show fx_V l M_FX_unpack (0, 0) Q 0 0 94 [some (.ref f), some (.ref p), some (.int (zI x2)), some (.int (zI x3)), some (.int (zI x4)), some (.int (zI r56)), none] [.int (zI r108)] h106
                  refine fx_istore (ls2 := [some (.ref f), some (.ref p), some (.int (zI x2)), some (.int (zI x3)), some (.int (zI x4)), some (.int (zI r56)), some (.int (zI r108))]) d_FX_unpack_94 (by decide) rfl ?_
                  refine fx_iload d_FX_unpack_96 rfl ?_
                  obtain ⟨hz109, H⟩ := H
                  refine fx_if_ne (t := 103) (n := 101) d_FX_unpack_98 hz109 (fun z110 => ?_) (fun z110 => ?_)
                  · replace H := H.1 z110
                    refine fx_iinc (v := x4 + 1) (ls2 := [some (.ref f), some (.ref p), some (.int (zI x2)), some (.int (zI x3)), some (.int (zI (x4 + 1))), some (.int (zI r56)), some (.int (zI r108))]) d_FX_unpack_103 rfl rfl (by decide) rfl ?_
                    refine fx_goto (n := 3) d_FX_unpack_106 ?_
                    exact fx_fewer [some (.ref f), some (.ref p), some (.int (zI x2)), some (.int (zI x3)), some (.int (zI (x4 + 1))), none, none] ⟨rfl, rfl, rfl, rfl, rfl, trivial⟩ H
                  · replace H := H.2 z110
                    refine fx_iconst d_FX_unpack_101 ?_
                    exact fx_end (some (.int (zI 0))) ⟨⟨_, rfl, rfl⟩, d_FX_unpack_102⟩ (Nat.le_refl _) (Nat.le_refl _) rfl H
              · replace H := H.2 z99
                refine fx_aload_n (i := 0) d_FX_unpack_57 rfl rfl ?_
                refine fx_getR (q := 4) d_FX_unpack_58 lk_FX_13 hf54 rfl rfl ?_
                refine fx_aload_n (i := 1) d_FX_unpack_61 rfl rfl ?_
                refine fx_iload d_FX_unpack_62 rfl ?_
                refine fx_callV (M' := M_LI_unpackByItself) (B' := (0, 0)) (vs := [.ref p, .int (zI x4)]) (rest := []) (c1 := 0) (s1 := 0) (n := 67) d_FX_unpack_64 ca_FX_unpack_48 (at_4 (h := _) hS54) rfl rfl rfl ⟨by decide, by decide⟩ (Nat.le_of_ble_eq_true rfl) (Or.inl rfl) (fx_Mt.mono H fun v h111 hv => ?_)
                obtain ⟨r113, rfl, e112, H⟩ := hv
                have hS111 := e112.trans hS54
                have hf111 : h111.1[f]? = some (hf_a, .inl (9, [none, some 4, some 1, some 3])) := by rw [e112]; exact hf54
                have hp111 : h111.1[p]? = some (hp_a, .inl (10, [some (p + 1), none, none, none])) := by rw [e112]; exact hp54
                have hx111 : h111.1[(p + 1)]? = some (hx_a, .inr (0, 960)) := by rw [e112]; exact hx54
                show fx_V l M_FX_unpack (0, 0) Q 0 0 67 [some (.ref f), some (.ref p), some (.int (zI x2)), some (.int (zI x3)), some (.int (zI x4)), some (.int (zI r56)), none] [.int (zI r113)] h111
                refine fx_goto (n := 94) d_FX_unpack_67 ?_
                refine fx_istore (ls2 := [some (.ref f), some (.ref p), some (.int (zI x2)), some (.int (zI x3)), some (.int (zI x4)), some (.int (zI r56)), some (.int (zI r113))]) d_FX_unpack_94 (by decide) rfl ?_
                refine fx_iload d_FX_unpack_96 rfl ?_
                obtain ⟨hz114, H⟩ := H
                refine fx_if_ne (t := 103) (n := 101) d_FX_unpack_98 hz114 (fun z115 => ?_) (fun z115 => ?_)
                · replace H := H.1 z115
                  refine fx_iinc (v := x4 + 1) (ls2 := [some (.ref f), some (.ref p), some (.int (zI x2)), some (.int (zI x3)), some (.int (zI (x4 + 1))), some (.int (zI r56)), some (.int (zI r113))]) d_FX_unpack_103 rfl rfl (by decide) rfl ?_
                  refine fx_goto (n := 3) d_FX_unpack_106 ?_
                  exact fx_fewer [some (.ref f), some (.ref p), some (.int (zI x2)), some (.int (zI x3)), some (.int (zI (x4 + 1))), none, none] ⟨rfl, rfl, rfl, rfl, rfl, trivial⟩ H
                · replace H := H.2 z115
                  refine fx_iconst d_FX_unpack_101 ?_
                  exact fx_end (some (.int (zI 0))) ⟨⟨_, rfl, rfl⟩, d_FX_unpack_102⟩ (Nat.le_refl _) (Nat.le_refl _) rfl H
            · replace H := H.2 z98
              refine fx_iconst d_FX_unpack_49 ?_
              exact fx_end (some (.int (zI 0))) ⟨⟨_, rfl, rfl⟩, d_FX_unpack_50⟩ (Nat.le_refl _) (Nat.le_refl _) rfl H

