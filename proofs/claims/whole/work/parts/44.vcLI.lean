/-! what is owed of the numbers, by program (wip/printvc.py) -/
set_option maxRecDepth 100000 in
set_option maxHeartbeats 4000000 in
theorem e_LI_runCode {l : Launch} {Q : Option Value → fx_H → Prop} {h : fx_H}  {n : Int} {c : Int}  {a : Nat → Nat} {pp dd : Nat} (hS : h.1 = fx_S0 a pp dd) 
    (H : zR n ∧ zR (if 40 < n then 40 else n) ∧ zR c ∧ ((¬ c = 0 → 0 ≤ (if 0 < (if 40 < n then 40 else n) then if 40 < n then 40 else n else 0) ∧ (if 0 < (if 40 < n then 40 else n) then if 40 < n then 40 else n else 0) < 41 ∧ Q (some (.int (zI (fx_tBL.getD (if 0 < (if 40 < n then 40 else n) then if 40 < n then 40 else n else 0).toNat 0)))) h) ∧ (c = 0 → 0 ≤ (if 0 < (if 40 < n then 40 else n) then if 40 < n then 40 else n else 0) ∧ (if 0 < (if 40 < n then 40 else n) then if 40 < n then 40 else n else 0) < 41 ∧ Q (some (.int (zI (fx_tWR.getD (if 0 < (if 40 < n then 40 else n) then if 40 < n then 40 else n else 0).toNat 0)))) h))) :
    fx_Mt l M_LI_runCode (0, 0) [.int (zI n), .int (zI c)] h Q := by
  refine fx_entry (ls := [some (.int (zI n)), some (.int (zI c)), none]) (by decide) (Nat.le_of_ble_eq_true rfl) rfl ?_
  refine fx_iconst d_LI_runCode_0 ?_
  refine fx_iload_n (i := 0) d_LI_runCode_1 rfl rfl ?_
  refine fx_gets (k0 := 1) d_LI_runCode_2 ls_LI_21 ?_
  refine fx_tlen (k0 := 1) (v := 41) d_LI_runCode_5 rfl rfl ?_
  refine fx_iconst d_LI_runCode_6 ?_
  refine fx_isub d_LI_runCode_7 ?_
  obtain ⟨hz1, H⟩ := H
  refine fx_min d_LI_runCode_8 mm_LI_44 mw_min_s mw_i mw_min_c ⟨by decide, by decide⟩ (Nat.le_of_ble_eq_true rfl) ⟨Nat.le_refl _, Nat.le_refl _⟩ hz1 (show zR 40 by decide) ?_
  obtain ⟨hz2, H⟩ := H
  refine fx_max d_LI_runCode_11 mm_LI_50 mw_max_s mw_i mw_max_c ⟨by decide, by decide⟩ (Nat.le_of_ble_eq_true rfl) ⟨Nat.le_refl _, Nat.le_refl _⟩ (show zR 0 by decide) hz2 ?_
  refine fx_istore_n (i := 2) (ls2 := [some (.int (zI n)), some (.int (zI c)), some (.int (zI (if 0 < (if 40 < n then 40 else n) then if 40 < n then 40 else n else 0)))]) d_LI_runCode_14 rfl (by decide) rfl ?_
  refine fx_iload_n (i := 1) d_LI_runCode_15 rfl rfl ?_
  obtain ⟨hz3, H⟩ := H
  refine fx_if_ne (t := 27) (n := 19) d_LI_runCode_16 hz3 (fun z4 => ?_) (fun z4 => ?_)
  · replace H := H.1 z4
    refine fx_gets (k0 := 2) d_LI_runCode_27 ls_LI_32 ?_
    refine fx_iload_n (i := 2) d_LI_runCode_30 rfl rfl ?_
    obtain ⟨hn5, H⟩ := H
    obtain ⟨hn6, H⟩ := H
    refine fx_tald (k0 := 2) d_LI_runCode_31 rfl hn5 hn6 (by decide) ?_
    exact fx_end (some (.int (zI (fx_tBL.getD (if 0 < (if 40 < n then 40 else n) then if 40 < n then 40 else n else 0).toNat 0)))) ⟨⟨_, rfl, rfl⟩, d_LI_runCode_32⟩ (Nat.le_refl _) (Nat.le_refl _) rfl H
  · replace H := H.2 z4
    refine fx_gets (k0 := 1) d_LI_runCode_19 ls_LI_21 ?_
    refine fx_iload_n (i := 2) d_LI_runCode_22 rfl rfl ?_
    obtain ⟨hn7, H⟩ := H
    obtain ⟨hn8, H⟩ := H
    refine fx_tald (k0 := 1) d_LI_runCode_23 rfl hn7 hn8 (by decide) ?_
    refine fx_goto (n := 32) d_LI_runCode_24 ?_
    exact fx_end (some (.int (zI (fx_tWR.getD (if 0 < (if 40 < n then 40 else n) then if 40 < n then 40 else n else 0).toNat 0)))) ⟨⟨_, rfl, rfl⟩, d_LI_runCode_32⟩ (Nat.le_refl _) (Nat.le_refl _) rfl H

set_option maxRecDepth 100000 in
set_option maxHeartbeats 4000000 in
theorem e_LI_runsOf {l : Launch} {Q : Option Value → fx_H → Prop} {h : fx_H}  {c : Int}  {a : Nat → Nat} {pp dd : Nat} (hS : h.1 = fx_S0 a pp dd) 
    (H : zR c ∧ ((¬ c = 0 → Q (some (.ref 7)) h) ∧ (c = 0 → Q (some (.ref 5)) h))) :
    fx_Mt l M_LI_runsOf (0, 0) [.ref 4, .int (zI c)] h Q := by
  refine fx_entry (ls := [some (.ref 4), some (.int (zI c))]) (by decide) (Nat.le_of_ble_eq_true rfl) rfl ?_
  refine fx_iload_n (i := 1) d_LI_runsOf_0 rfl rfl ?_
  obtain ⟨hz1, H⟩ := H
  refine fx_if_ne (t := 11) (n := 4) d_LI_runsOf_1 hz1 (fun z2 => ?_) (fun z2 => ?_)
  · replace H := H.1 z2
    refine fx_aload_n (i := 0) d_LI_runsOf_11 rfl rfl ?_
    refine fx_getR (q := 7) d_LI_runsOf_12 lk_LI_35 (at_4 (h := _) hS) rfl rfl ?_
    exact fx_end (some (.ref 7)) ⟨⟨_, rfl, by first | exact Or.inl ⟨_, rfl⟩ | exact Or.inr ⟨_, rfl⟩⟩, d_LI_runsOf_15⟩ (Nat.le_refl _) (Nat.le_refl _) rfl H
  · replace H := H.2 z2
    refine fx_aload_n (i := 0) d_LI_runsOf_4 rfl rfl ?_
    refine fx_getR (q := 5) d_LI_runsOf_5 lk_LI_28 (at_4 (h := _) hS) rfl rfl ?_
    refine fx_goto (n := 15) d_LI_runsOf_8 ?_
    exact fx_end (some (.ref 5)) ⟨⟨_, rfl, by first | exact Or.inl ⟨_, rfl⟩ | exact Or.inr ⟨_, rfl⟩⟩, d_LI_runsOf_15⟩ (Nat.le_refl _) (Nat.le_refl _) rfl H

set_option maxRecDepth 100000 in
set_option maxHeartbeats 4000000 in
theorem e_LI_packByItself {l : Launch} {Q : Option Value → fx_H → Prop} {h : fx_H} {p : Nat} {y : Int} {hp_a : Nat} {hx_a : Nat} {a : Nat → Nat} {pp dd : Nat} (hS : h.1 = fx_S0 a pp dd) (hp : h.1[p]? = some (hp_a, .inl (10, [some (p + 1), none, none, none]))) (hx : h.1[(p + 1)]? = some (hx_a, .inr (0, 960)))
    (H : (fx_V l M_LI_packByItself (0, 0) Q 0 0 8 [some (.ref 4), some (.ref p), some (.int (zI y)), some (.int (zI 0)), some (.int (zI 0)), some (.int (zI 0)), none] [] h)) :
    fx_Mt l M_LI_packByItself (0, 0) [.ref 4, .ref p, .int (zI y)] h Q := by
  refine fx_entry (ls := [some (.ref 4), some (.ref p), some (.int (zI y)), none, none, none, none]) (by decide) (Nat.le_of_ble_eq_true rfl) rfl ?_
  refine fx_iconst d_LI_packByItself_0 ?_
  refine fx_istore_n (i := 3) (ls2 := [some (.ref 4), some (.ref p), some (.int (zI y)), some (.int (zI 0)), none, none, none]) d_LI_packByItself_1 rfl (by decide) rfl ?_
  refine fx_iconst d_LI_packByItself_2 ?_
  refine fx_istore (ls2 := [some (.ref 4), some (.ref p), some (.int (zI y)), some (.int (zI 0)), some (.int (zI 0)), none, none]) d_LI_packByItself_3 (by decide) rfl ?_
  refine fx_iconst d_LI_packByItself_5 ?_
  refine fx_istore (ls2 := [some (.ref 4), some (.ref p), some (.int (zI y)), some (.int (zI 0)), some (.int (zI 0)), some (.int (zI 0)), none]) d_LI_packByItself_6 (by decide) rfl ?_
  exact H

set_option maxRecDepth 100000 in
set_option maxHeartbeats 4000000 in
theorem w_LI_packByItself_8 {l : Launch} {Q : Option Value → fx_H → Prop} {h : fx_H} {p : Nat} {x2 : Int} {x3 : Int} {x4 : Int} {x5 : Int} {hp_a : Nat} {hx_a : Nat} {a : Nat → Nat} {pp dd : Nat} (hS : h.1 = fx_S0 a pp dd) (hp : h.1[p]? = some (hp_a, .inl (10, [some (p + 1), none, none, none]))) (hx : h.1[(p + 1)]? = some (hx_a, .inr (0, 960)))
    (H : zR x5 ∧ zR (h.2.1 p 2) ∧ (((h.2.1 p 2) < x5 → Q none h) ∧ (¬ ((h.2.1 p 2) < x5) → zR x3 ∧ (((h.2.1 p 2) ≤ x3 → Q none h) ∧ (¬ ((h.2.1 p 2) ≤ x3) → fx_Mt l M_PI_firstUnlike (0, 0) [.ref p, .int (zI x2), .int (zI x3), .int (zI x4)] h (fun v h6 => ∃ r8 : Int, v = some (.int (zI r8)) ∧ h6.1 = h.1 ∧ fx_Mt l M_LI_runCode (0, 0) [.int (zI (r8 - x3)), .int (zI x4)] h6 (fun v h9 => ∃ r11 : Int, v = some (.int (zI r11)) ∧ h9.1 = h6.1 ∧ fx_Mt l M_BY_appendCode (0, 0) [.ref 1, .int (zI r11)] h9 (fun v h12 => v = none ∧ h12.1 = h9.1 ∧ (fx_V l M_LI_packByItself (0, 0) Q 0 0 8 [some (.ref 4), some (.ref p), some (.int (zI x2)), some (.int (zI r8)), some (.int (zI (1 - x4))), some (.int (zI (x5 + 1))), none] [] h12))))))))) :
    fx_V l M_LI_packByItself (0, 0) Q 0 0 8 [some (.ref 4), some (.ref p), some (.int (zI x2)), some (.int (zI x3)), some (.int (zI x4)), some (.int (zI x5)), none] [] h := by
  refine fx_iload d_LI_packByItself_8 rfl ?_
  refine fx_aload_n (i := 1) d_LI_packByItself_10 rfl rfl ?_
  refine fx_getI d_LI_packByItself_11 lk_LI_53 hp rfl ?_
  obtain ⟨hz1, H⟩ := H
  obtain ⟨hz2, H⟩ := H
  refine fx_icmp_gt (t := 66) (n := 17) d_LI_packByItself_14 hz1 hz2 (fun z3 => ?_) (fun z3 => ?_)
  · replace H := H.1 z3
    exact fx_end none ⟨rfl, d_LI_packByItself_66⟩ (Nat.le_refl _) (Nat.le_refl _) rfl H
  · replace H := H.2 z3
    refine fx_iload_n (i := 3) d_LI_packByItself_17 rfl rfl ?_
    refine fx_aload_n (i := 1) d_LI_packByItself_18 rfl rfl ?_
    refine fx_getI d_LI_packByItself_19 lk_LI_53 hp rfl ?_
    obtain ⟨hz4, H⟩ := H
    refine fx_icmp_ge (t := 66) (n := 25) d_LI_packByItself_22 hz4 hz2 (fun z5 => ?_) (fun z5 => ?_)
    · replace H := H.1 z5
      exact fx_end none ⟨rfl, d_LI_packByItself_66⟩ (Nat.le_refl _) (Nat.le_refl _) rfl H
    · replace H := H.2 z5
      refine fx_aload_n (i := 1) d_LI_packByItself_25 rfl rfl ?_
      refine fx_iload_n (i := 2) d_LI_packByItself_26 rfl rfl ?_
      refine fx_iload_n (i := 3) d_LI_packByItself_27 rfl rfl ?_
      refine fx_iload d_LI_packByItself_28 rfl ?_
      refine fx_callV (M' := M_PI_firstUnlike) (B' := (0, 0)) (vs := [.int (zI x2), .int (zI x3), .int (zI x4)]) (rest := []) (c1 := 0) (s1 := 0) (n := 33) d_LI_packByItself_30 ca_LI_packByItself_59 hp rfl rfl rfl ⟨by decide, by decide⟩ (Nat.le_of_ble_eq_true rfl) (Or.inl rfl) (fx_Mt.mono H fun v h6 hv => ?_)
      obtain ⟨r8, rfl, e7, H⟩ := hv
      have hS6 := e7.trans hS
      have hp6 : h6.1[p]? = some (hp_a, .inl (10, [some (p + 1), none, none, none])) := by rw [e7]; exact hp
      have hx6 : h6.1[(p + 1)]? = some (hx_a, .inr (0, 960)) := by rw [e7]; exact hx
      show fx_V l M_LI_packByItself (0, 0) Q 0 0 33 [some (.ref 4), some (.ref p), some (.int (zI x2)), some (.int (zI x3)), some (.int (zI x4)), some (.int (zI x5)), none] [.int (zI r8)] h6
      refine fx_istore (ls2 := [some (.ref 4), some (.ref p), some (.int (zI x2)), some (.int (zI x3)), some (.int (zI x4)), some (.int (zI x5)), some (.int (zI r8))]) d_LI_packByItself_33 (by decide) rfl ?_
      refine fx_aload_n (i := 0) d_LI_packByItself_35 rfl rfl ?_
      refine fx_getR (q := 1) d_LI_packByItself_36 lk_LI_9 (at_4 (h := _) hS6) rfl rfl ?_
      refine fx_iload d_LI_packByItself_39 rfl ?_
      refine fx_iload_n (i := 3) d_LI_packByItself_41 rfl rfl ?_
      refine fx_isub d_LI_packByItself_42 ?_
      refine fx_iload d_LI_packByItself_43 rfl ?_
      refine fx_callS (M' := M_LI_runCode) (B' := (0, 0)) (vs := [.int (zI (r8 - x3)), .int (zI x4)]) (rest := [.ref 1]) (c1 := 0) (s1 := 0) (n := 48) d_LI_packByItself_45 ca_LI_packByItself_63 rfl rfl ⟨by decide, by decide⟩ (Nat.le_of_ble_eq_true rfl) (Or.inl rfl) (fx_Mt.mono H fun v h9 hv => ?_)
      obtain ⟨r11, rfl, e10, H⟩ := hv
      have hS9 := e10.trans hS6
      have hp9 : h9.1[p]? = some (hp_a, .inl (10, [some (p + 1), none, none, none])) := by rw [e10]; exact hp6
      have hx9 : h9.1[(p + 1)]? = some (hx_a, .inr (0, 960)) := by rw [e10]; exact hx6
      show fx_V l M_LI_packByItself (0, 0) Q 0 0 48 [some (.ref 4), some (.ref p), some (.int (zI x2)), some (.int (zI x3)), some (.int (zI x4)), some (.int (zI x5)), some (.int (zI r8))] [.int (zI r11), .ref 1] h9
      refine fx_callV (M' := M_BY_appendCode) (B' := (0, 0)) (vs := [.int (zI r11)]) (rest := []) (c1 := 0) (s1 := 0) (n := 51) d_LI_packByItself_48 ca_LI_packByItself_66 (at_1 (h := _) hS9) rfl rfl rfl ⟨by decide, by decide⟩ (Nat.le_of_ble_eq_true rfl) (Or.inl rfl) (fx_Mt.mono H fun v h12 hv => ?_)
      obtain ⟨rfl, e13, H⟩ := hv
      have hS12 := e13.trans hS9
      have hp12 : h12.1[p]? = some (hp_a, .inl (10, [some (p + 1), none, none, none])) := by rw [e13]; exact hp9
      have hx12 : h12.1[(p + 1)]? = some (hx_a, .inr (0, 960)) := by rw [e13]; exact hx9
      show fx_V l M_LI_packByItself (0, 0) Q 0 0 51 [some (.ref 4), some (.ref p), some (.int (zI x2)), some (.int (zI x3)), some (.int (zI x4)), some (.int (zI x5)), some (.int (zI r8))] [] h12
      refine fx_iload d_LI_packByItself_51 rfl ?_
      refine fx_istore_n (i := 3) (ls2 := [some (.ref 4), some (.ref p), some (.int (zI x2)), some (.int (zI r8)), some (.int (zI x4)), some (.int (zI x5)), some (.int (zI r8))]) d_LI_packByItself_53 rfl (by decide) rfl ?_
      refine fx_iconst d_LI_packByItself_54 ?_
      refine fx_iload d_LI_packByItself_55 rfl ?_
      refine fx_isub d_LI_packByItself_57 ?_
      refine fx_istore (ls2 := [some (.ref 4), some (.ref p), some (.int (zI x2)), some (.int (zI r8)), some (.int (zI (1 - x4))), some (.int (zI x5)), some (.int (zI r8))]) d_LI_packByItself_58 (by decide) rfl ?_
      refine fx_iinc (v := x5 + 1) (ls2 := [some (.ref 4), some (.ref p), some (.int (zI x2)), some (.int (zI r8)), some (.int (zI (1 - x4))), some (.int (zI (x5 + 1))), some (.int (zI r8))]) d_LI_packByItself_60 rfl rfl (by decide) rfl ?_
      refine fx_goto (n := 8) d_LI_packByItself_63 ?_
      exact fx_fewer [some (.ref 4), some (.ref p), some (.int (zI x2)), some (.int (zI r8)), some (.int (zI (1 - x4))), some (.int (zI (x5 + 1))), none] ⟨rfl, rfl, rfl, rfl, rfl, rfl, trivial⟩ H

set_option maxRecDepth 100000 in
set_option maxHeartbeats 4000000 in
theorem e_LI_unpackByItself {l : Launch} {Q : Option Value → fx_H → Prop} {h : fx_H} {p : Nat} {y : Int} {hp_a : Nat} {hx_a : Nat} {a : Nat → Nat} {pp dd : Nat} (hS : h.1 = fx_S0 a pp dd) (hp : h.1[p]? = some (hp_a, .inl (10, [some (p + 1), none, none, none]))) (hx : h.1[(p + 1)]? = some (hx_a, .inr (0, 960)))
    (H : (fx_V l M_LI_unpackByItself (0, 0) Q 0 0 8 [some (.ref 4), some (.ref p), some (.int (zI y)), some (.int (zI 0)), some (.int (zI 0)), some (.int (zI 0)), none] [] h)) :
    fx_Mt l M_LI_unpackByItself (0, 0) [.ref 4, .ref p, .int (zI y)] h Q := by
  refine fx_entry (ls := [some (.ref 4), some (.ref p), some (.int (zI y)), none, none, none, none]) (by decide) (Nat.le_of_ble_eq_true rfl) rfl ?_
  refine fx_iconst d_LI_unpackByItself_0 ?_
  refine fx_istore_n (i := 3) (ls2 := [some (.ref 4), some (.ref p), some (.int (zI y)), some (.int (zI 0)), none, none, none]) d_LI_unpackByItself_1 rfl (by decide) rfl ?_
  refine fx_iconst d_LI_unpackByItself_2 ?_
  refine fx_istore (ls2 := [some (.ref 4), some (.ref p), some (.int (zI y)), some (.int (zI 0)), some (.int (zI 0)), none, none]) d_LI_unpackByItself_3 (by decide) rfl ?_
  refine fx_iconst d_LI_unpackByItself_5 ?_
  refine fx_istore (ls2 := [some (.ref 4), some (.ref p), some (.int (zI y)), some (.int (zI 0)), some (.int (zI 0)), some (.int (zI 0)), none]) d_LI_unpackByItself_6 (by decide) rfl ?_
  exact H

set_option maxRecDepth 100000 in
set_option maxHeartbeats 4000000 in
theorem w_LI_unpackByItself_8 {l : Launch} {Q : Option Value → fx_H → Prop} {h : fx_H} {p : Nat} {x2 : Int} {x3 : Int} {x4 : Int} {x5 : Int} {hp_a : Nat} {hx_a : Nat} {a : Nat → Nat} {pp dd : Nat} (hS : h.1 = fx_S0 a pp dd) (hp : h.1[p]? = some (hp_a, .inl (10, [some (p + 1), none, none, none]))) (hx : h.1[(p + 1)]? = some (hx_a, .inr (0, 960)))
    (H : zR x5 ∧ ((16000 ≤ x5 → zR x3 ∧ zR (h.2.1 p 2) ∧ ((¬ x3 = (h.2.1 p 2) → Q (some (.int (zI 0))) h) ∧ (x3 = (h.2.1 p 2) → Q (some (.int (zI 1))) h))) ∧ (¬ (16000 ≤ x5) → zR x3 ∧ zR (h.2.1 p 2) ∧ (((h.2.1 p 2) ≤ x3 → ((¬ x3 = (h.2.1 p 2) → Q (some (.int (zI 0))) h) ∧ (x3 = (h.2.1 p 2) → Q (some (.int (zI 1))) h))) ∧ (¬ ((h.2.1 p 2) ≤ x3) → fx_Mt l M_LI_runsOf (0, 0) [.ref 4, .int (zI x4)] h (fun v h10 => ∃ q12 : Nat, v = some (.ref q12) ∧ (q12 = 5 ∨ q12 = 7) ∧ h10.1 = h.1 ∧ fx_Mt l M_CT_next (0, 0) [.ref q12, .ref 3] h10 (fun v h13 => ∃ r15 : Int, v = some (.int (zI r15)) ∧ h13.1 = h10.1 ∧ zR r15 ∧ ((r15 < 0 → Q (some (.int (zI 0))) h13) ∧ (¬ (r15 < 0) → zR (x3 + r15) ∧ zR (h13.2.1 p 2) ∧ (((x3 + r15) ≤ (h13.2.1 p 2) → fx_Mt l M_LI_paintRun (0, 0) [.ref 4, .ref p, .int (zI x2), .int (zI x3), .int (zI (x3 + r15)), .int (zI x4)] h13 (fun v h21 => v = none ∧ h21.1 = h13.1 ∧ (fx_V l M_LI_unpackByItself (0, 0) Q 0 0 8 [some (.ref 4), some (.ref p), some (.int (zI x2)), some (.int (zI (x3 + r15))), some (.int (zI (1 - x4))), some (.int (zI (x5 + 1))), none] [] h21))) ∧ (¬ ((x3 + r15) ≤ (h13.2.1 p 2)) → Q (some (.int (zI 0))) h13))))))))))) :
    fx_V l M_LI_unpackByItself (0, 0) Q 0 0 8 [some (.ref 4), some (.ref p), some (.int (zI x2)), some (.int (zI x3)), some (.int (zI x4)), some (.int (zI x5)), none] [] h := by
  refine fx_iload d_LI_unpackByItself_8 rfl ?_
  refine fx_sipush (v := 16000) d_LI_unpackByItself_10 rfl ?_
  obtain ⟨hz1, H⟩ := H
  refine fx_icmp_ge (t := 87) (n := 16) d_LI_unpackByItself_13 hz1 (show zR 16000 by decide) (fun z2 => ?_) (fun z2 => ?_)
  · replace H := H.1 z2
    refine fx_iload_n (i := 3) d_LI_unpackByItself_87 rfl rfl ?_
    refine fx_aload_n (i := 1) d_LI_unpackByItself_88 rfl rfl ?_
    refine fx_getI d_LI_unpackByItself_89 lk_LI_53 hp rfl ?_
    obtain ⟨hz3, H⟩ := H
    obtain ⟨hz4, H⟩ := H
    refine fx_icmp_ne (t := 99) (n := 95) d_LI_unpackByItself_92 hz3 hz4 (fun z5 => ?_) (fun z5 => ?_)
    · replace H := H.1 z5
      refine fx_iconst d_LI_unpackByItself_99 ?_
      exact fx_end (some (.int (zI 0))) ⟨⟨_, rfl, rfl⟩, d_LI_unpackByItself_100⟩ (Nat.le_refl _) (Nat.le_refl _) rfl H
    · replace H := H.2 z5
      refine fx_iconst d_LI_unpackByItself_95 ?_
      refine fx_goto (n := 100) d_LI_unpackByItself_96 ?_
      exact fx_end (some (.int (zI 1))) ⟨⟨_, rfl, rfl⟩, d_LI_unpackByItself_100⟩ (Nat.le_refl _) (Nat.le_refl _) rfl H
  · replace H := H.2 z2
    refine fx_iload_n (i := 3) d_LI_unpackByItself_16 rfl rfl ?_
    refine fx_aload_n (i := 1) d_LI_unpackByItself_17 rfl rfl ?_
    refine fx_getI d_LI_unpackByItself_18 lk_LI_53 hp rfl ?_
    obtain ⟨hz6, H⟩ := H
    obtain ⟨hz7, H⟩ := H
    refine fx_icmp_ge (t := 87) (n := 24) d_LI_unpackByItself_21 hz6 hz7 (fun z8 => ?_) (fun z8 => ?_)
    · replace H := H.1 z8
      refine fx_iload_n (i := 3) d_LI_unpackByItself_87 rfl rfl ?_
      refine fx_aload_n (i := 1) d_LI_unpackByItself_88 rfl rfl ?_
      refine fx_getI d_LI_unpackByItself_89 lk_LI_53 hp rfl ?_
      refine fx_icmp_ne (t := 99) (n := 95) d_LI_unpackByItself_92 hz6 hz7 (fun z9 => ?_) (fun z9 => ?_)
      · replace H := H.1 z9
        refine fx_iconst d_LI_unpackByItself_99 ?_
        exact fx_end (some (.int (zI 0))) ⟨⟨_, rfl, rfl⟩, d_LI_unpackByItself_100⟩ (Nat.le_refl _) (Nat.le_refl _) rfl H
      · replace H := H.2 z9
        refine fx_iconst d_LI_unpackByItself_95 ?_
        refine fx_goto (n := 100) d_LI_unpackByItself_96 ?_
        exact fx_end (some (.int (zI 1))) ⟨⟨_, rfl, rfl⟩, d_LI_unpackByItself_100⟩ (Nat.le_refl _) (Nat.le_refl _) rfl H
    · replace H := H.2 z8
      refine fx_aload_n (i := 0) d_LI_unpackByItself_24 rfl rfl ?_
      refine fx_iload d_LI_unpackByItself_25 rfl ?_
      refine fx_callV (M' := M_LI_runsOf) (B' := (0, 0)) (vs := [.int (zI x4)]) (rest := []) (c1 := 0) (s1 := 0) (n := 30) d_LI_unpackByItself_27 ca_LI_unpackByItself_72 (at_4 (h := _) hS) rfl rfl rfl ⟨by decide, by decide⟩ (Nat.le_of_ble_eq_true rfl) (Or.inl rfl) (fx_Mt.mono H fun v h10 hv => ?_)
      obtain ⟨q12, rfl, hcq12, e11, H⟩ := hv
      have hS10 := e11.trans hS
      have hp10 : h10.1[p]? = some (hp_a, .inl (10, [some (p + 1), none, none, none])) := by rw [e11]; exact hp
      have hx10 : h10.1[(p + 1)]? = some (hx_a, .inr (0, 960)) := by rw [e11]; exact hx
      rcases hcq12 with rfl | rfl
      · show fx_V l M_LI_unpackByItself (0, 0) Q 0 0 30 [some (.ref 4), some (.ref p), some (.int (zI x2)), some (.int (zI x3)), some (.int (zI x4)), some (.int (zI x5)), none] [.ref 5] h10
        refine fx_aload_n (i := 0) d_LI_unpackByItself_30 rfl rfl ?_
        refine fx_getR (q := 3) d_LI_unpackByItself_31 lk_LI_15 (at_4 (h := _) hS10) rfl rfl ?_
        refine fx_callV (M' := M_CT_next) (B' := (0, 0)) (vs := [.ref 3]) (rest := []) (c1 := 0) (s1 := 0) (n := 37) d_LI_unpackByItself_34 ca_LI_unpackByItself_76 (at_5 (h := _) hS10) rfl rfl rfl ⟨by decide, by decide⟩ (Nat.le_of_ble_eq_true rfl) (Or.inl rfl) (fx_Mt.mono H fun v h13 hv => ?_)
        obtain ⟨r15, rfl, e14, H⟩ := hv
        have hS13 := e14.trans hS10
        have hp13 : h13.1[p]? = some (hp_a, .inl (10, [some (p + 1), none, none, none])) := by rw [e14]; exact hp10
        have hx13 : h13.1[(p + 1)]? = some (hx_a, .inr (0, 960)) := by rw [e14]; exact hx10
        show fx_V l M_LI_unpackByItself (0, 0) Q 0 0 37 [some (.ref 4), some (.ref p), some (.int (zI x2)), some (.int (zI x3)), some (.int (zI x4)), some (.int (zI x5)), none] [.int (zI r15)] h13
        refine fx_istore (ls2 := [some (.ref 4), some (.ref p), some (.int (zI x2)), some (.int (zI x3)), some (.int (zI x4)), some (.int (zI x5)), some (.int (zI r15))]) d_LI_unpackByItself_37 (by decide) rfl ?_
        refine fx_iload d_LI_unpackByItself_39 rfl ?_
        obtain ⟨hz16, H⟩ := H
        refine fx_if_lt (t := 55) (n := 44) d_LI_unpackByItself_41 hz16 (fun z17 => ?_) (fun z17 => ?_)
        · replace H := H.1 z17
          refine fx_iconst d_LI_unpackByItself_55 ?_
          exact fx_end (some (.int (zI 0))) ⟨⟨_, rfl, rfl⟩, d_LI_unpackByItself_56⟩ (Nat.le_refl _) (Nat.le_refl _) rfl H
        · replace H := H.2 z17
          refine fx_iload_n (i := 3) d_LI_unpackByItself_44 rfl rfl ?_
          refine fx_iload d_LI_unpackByItself_45 rfl ?_
          refine fx_iadd d_LI_unpackByItself_47 ?_
          refine fx_aload_n (i := 1) d_LI_unpackByItself_48 rfl rfl ?_
          refine fx_getI d_LI_unpackByItself_49 lk_LI_53 hp13 rfl ?_
          obtain ⟨hz18, H⟩ := H
          obtain ⟨hz19, H⟩ := H
          refine fx_icmp_le (t := 57) (n := 55) d_LI_unpackByItself_52 hz18 hz19 (fun z20 => ?_) (fun z20 => ?_)
          · replace H := H.1 z20
            refine fx_aload_n (i := 0) d_LI_unpackByItself_57 rfl rfl ?_
            refine fx_aload_n (i := 1) d_LI_unpackByItself_58 rfl rfl ?_
            refine fx_iload_n (i := 2) d_LI_unpackByItself_59 rfl rfl ?_
            refine fx_iload_n (i := 3) d_LI_unpackByItself_60 rfl rfl ?_
            refine fx_iload_n (i := 3) d_LI_unpackByItself_61 rfl rfl ?_
            refine fx_iload d_LI_unpackByItself_62 rfl ?_
            refine fx_iadd d_LI_unpackByItself_64 ?_
            refine fx_iload d_LI_unpackByItself_65 rfl ?_
            refine fx_callV (M' := M_LI_paintRun) (B' := (0, 0)) (vs := [.ref p, .int (zI x2), .int (zI x3), .int (zI (x3 + r15)), .int (zI x4)]) (rest := []) (c1 := 0) (s1 := 0) (n := 70) d_LI_unpackByItself_67 ca_LI_unpackByItself_80 (at_4 (h := _) hS13) rfl rfl rfl ⟨by decide, by decide⟩ (Nat.le_of_ble_eq_true rfl) (Or.inl rfl) (fx_Mt.mono H fun v h21 hv => ?_)
            obtain ⟨rfl, e22, H⟩ := hv
            have hS21 := e22.trans hS13
            have hp21 : h21.1[p]? = some (hp_a, .inl (10, [some (p + 1), none, none, none])) := by rw [e22]; exact hp13
            have hx21 : h21.1[(p + 1)]? = some (hx_a, .inr (0, 960)) := by rw [e22]; exact hx13
            show fx_V l M_LI_unpackByItself (0, 0) Q 0 0 70 [some (.ref 4), some (.ref p), some (.int (zI x2)), some (.int (zI x3)), some (.int (zI x4)), some (.int (zI x5)), some (.int (zI r15))] [] h21
            refine fx_iload_n (i := 3) d_LI_unpackByItself_70 rfl rfl ?_
            refine fx_iload d_LI_unpackByItself_71 rfl ?_
            refine fx_iadd d_LI_unpackByItself_73 ?_
            refine fx_istore_n (i := 3) (ls2 := [some (.ref 4), some (.ref p), some (.int (zI x2)), some (.int (zI (x3 + r15))), some (.int (zI x4)), some (.int (zI x5)), some (.int (zI r15))]) d_LI_unpackByItself_74 rfl (by decide) rfl ?_
            refine fx_iconst d_LI_unpackByItself_75 ?_
            refine fx_iload d_LI_unpackByItself_76 rfl ?_
            refine fx_isub d_LI_unpackByItself_78 ?_
            refine fx_istore (ls2 := [some (.ref 4), some (.ref p), some (.int (zI x2)), some (.int (zI (x3 + r15))), some (.int (zI (1 - x4))), some (.int (zI x5)), some (.int (zI r15))]) d_LI_unpackByItself_79 (by decide) rfl ?_
            refine fx_iinc (v := x5 + 1) (ls2 := [some (.ref 4), some (.ref p), some (.int (zI x2)), some (.int (zI (x3 + r15))), some (.int (zI (1 - x4))), some (.int (zI (x5 + 1))), some (.int (zI r15))]) d_LI_unpackByItself_81 rfl rfl (by decide) rfl ?_
            refine fx_goto (n := 8) d_LI_unpackByItself_84 ?_
            exact fx_fewer [some (.ref 4), some (.ref p), some (.int (zI x2)), some (.int (zI (x3 + r15))), some (.int (zI (1 - x4))), some (.int (zI (x5 + 1))), none] ⟨rfl, rfl, rfl, rfl, rfl, rfl, trivial⟩ H
          · replace H := H.2 z20
            refine fx_iconst d_LI_unpackByItself_55 ?_
            exact fx_end (some (.int (zI 0))) ⟨⟨_, rfl, rfl⟩, d_LI_unpackByItself_56⟩ (Nat.le_refl _) (Nat.le_refl _) rfl H
      · show fx_V l M_LI_unpackByItself (0, 0) Q 0 0 30 [some (.ref 4), some (.ref p), some (.int (zI x2)), some (.int (zI x3)), some (.int (zI x4)), some (.int (zI x5)), none] [.ref 7] h10
        refine fx_aload_n (i := 0) d_LI_unpackByItself_30 rfl rfl ?_
        refine fx_getR (q := 3) d_LI_unpackByItself_31 lk_LI_15 (at_4 (h := _) hS10) rfl rfl ?_
        refine fx_callV (M' := M_CT_next) (B' := (0, 0)) (vs := [.ref 3]) (rest := []) (c1 := 0) (s1 := 0) (n := 37) d_LI_unpackByItself_34 ca_LI_unpackByItself_76 (at_7 (h := _) hS10) rfl rfl rfl ⟨by decide, by decide⟩ (Nat.le_of_ble_eq_true rfl) (Or.inl rfl) (fx_Mt.mono H fun v h13 hv => ?_)
        obtain ⟨r15, rfl, e14, H⟩ := hv
        have hS13 := e14.trans hS10
        have hp13 : h13.1[p]? = some (hp_a, .inl (10, [some (p + 1), none, none, none])) := by rw [e14]; exact hp10
        have hx13 : h13.1[(p + 1)]? = some (hx_a, .inr (0, 960)) := by rw [e14]; exact hx10
        show fx_V l M_LI_unpackByItself (0, 0) Q 0 0 37 [some (.ref 4), some (.ref p), some (.int (zI x2)), some (.int (zI x3)), some (.int (zI x4)), some (.int (zI x5)), none] [.int (zI r15)] h13
        refine fx_istore (ls2 := [some (.ref 4), some (.ref p), some (.int (zI x2)), some (.int (zI x3)), some (.int (zI x4)), some (.int (zI x5)), some (.int (zI r15))]) d_LI_unpackByItself_37 (by decide) rfl ?_
        refine fx_iload d_LI_unpackByItself_39 rfl ?_
        obtain ⟨hz16, H⟩ := H
        refine fx_if_lt (t := 55) (n := 44) d_LI_unpackByItself_41 hz16 (fun z17 => ?_) (fun z17 => ?_)
        · replace H := H.1 z17
          refine fx_iconst d_LI_unpackByItself_55 ?_
          exact fx_end (some (.int (zI 0))) ⟨⟨_, rfl, rfl⟩, d_LI_unpackByItself_56⟩ (Nat.le_refl _) (Nat.le_refl _) rfl H
        · replace H := H.2 z17
          refine fx_iload_n (i := 3) d_LI_unpackByItself_44 rfl rfl ?_
          refine fx_iload d_LI_unpackByItself_45 rfl ?_
          refine fx_iadd d_LI_unpackByItself_47 ?_
          refine fx_aload_n (i := 1) d_LI_unpackByItself_48 rfl rfl ?_
          refine fx_getI d_LI_unpackByItself_49 lk_LI_53 hp13 rfl ?_
          obtain ⟨hz18, H⟩ := H
          obtain ⟨hz19, H⟩ := H
          refine fx_icmp_le (t := 57) (n := 55) d_LI_unpackByItself_52 hz18 hz19 (fun z20 => ?_) (fun z20 => ?_)
          · replace H := H.1 z20
            refine fx_aload_n (i := 0) d_LI_unpackByItself_57 rfl rfl ?_
            refine fx_aload_n (i := 1) d_LI_unpackByItself_58 rfl rfl ?_
            refine fx_iload_n (i := 2) d_LI_unpackByItself_59 rfl rfl ?_
            refine fx_iload_n (i := 3) d_LI_unpackByItself_60 rfl rfl ?_
            refine fx_iload_n (i := 3) d_LI_unpackByItself_61 rfl rfl ?_
            refine fx_iload d_LI_unpackByItself_62 rfl ?_
            refine fx_iadd d_LI_unpackByItself_64 ?_
            refine fx_iload d_LI_unpackByItself_65 rfl ?_
            refine fx_callV (M' := M_LI_paintRun) (B' := (0, 0)) (vs := [.ref p, .int (zI x2), .int (zI x3), .int (zI (x3 + r15)), .int (zI x4)]) (rest := []) (c1 := 0) (s1 := 0) (n := 70) d_LI_unpackByItself_67 ca_LI_unpackByItself_80 (at_4 (h := _) hS13) rfl rfl rfl ⟨by decide, by decide⟩ (Nat.le_of_ble_eq_true rfl) (Or.inl rfl) (fx_Mt.mono H fun v h21 hv => ?_)
            obtain ⟨rfl, e22, H⟩ := hv
            have hS21 := e22.trans hS13
            have hp21 : h21.1[p]? = some (hp_a, .inl (10, [some (p + 1), none, none, none])) := by rw [e22]; exact hp13
            have hx21 : h21.1[(p + 1)]? = some (hx_a, .inr (0, 960)) := by rw [e22]; exact hx13
            show fx_V l M_LI_unpackByItself (0, 0) Q 0 0 70 [some (.ref 4), some (.ref p), some (.int (zI x2)), some (.int (zI x3)), some (.int (zI x4)), some (.int (zI x5)), some (.int (zI r15))] [] h21
            refine fx_iload_n (i := 3) d_LI_unpackByItself_70 rfl rfl ?_
            refine fx_iload d_LI_unpackByItself_71 rfl ?_
            refine fx_iadd d_LI_unpackByItself_73 ?_
            refine fx_istore_n (i := 3) (ls2 := [some (.ref 4), some (.ref p), some (.int (zI x2)), some (.int (zI (x3 + r15))), some (.int (zI x4)), some (.int (zI x5)), some (.int (zI r15))]) d_LI_unpackByItself_74 rfl (by decide) rfl ?_
            refine fx_iconst d_LI_unpackByItself_75 ?_
            refine fx_iload d_LI_unpackByItself_76 rfl ?_
            refine fx_isub d_LI_unpackByItself_78 ?_
            refine fx_istore (ls2 := [some (.ref 4), some (.ref p), some (.int (zI x2)), some (.int (zI (x3 + r15))), some (.int (zI (1 - x4))), some (.int (zI x5)), some (.int (zI r15))]) d_LI_unpackByItself_79 (by decide) rfl ?_
            refine fx_iinc (v := x5 + 1) (ls2 := [some (.ref 4), some (.ref p), some (.int (zI x2)), some (.int (zI (x3 + r15))), some (.int (zI (1 - x4))), some (.int (zI (x5 + 1))), some (.int (zI r15))]) d_LI_unpackByItself_81 rfl rfl (by decide) rfl ?_
            refine fx_goto (n := 8) d_LI_unpackByItself_84 ?_
            exact fx_fewer [some (.ref 4), some (.ref p), some (.int (zI x2)), some (.int (zI (x3 + r15))), some (.int (zI (1 - x4))), some (.int (zI (x5 + 1))), none] ⟨rfl, rfl, rfl, rfl, rfl, rfl, trivial⟩ H
          · replace H := H.2 z20
            refine fx_iconst d_LI_unpackByItself_55 ?_
            exact fx_end (some (.int (zI 0))) ⟨⟨_, rfl, rfl⟩, d_LI_unpackByItself_56⟩ (Nat.le_refl _) (Nat.le_refl _) rfl H

set_option maxRecDepth 100000 in
set_option maxHeartbeats 4000000 in
theorem e_LI_packByAnother {l : Launch} {Q : Option Value → fx_H → Prop} {h : fx_H} {p : Nat} {y : Int} {o : Int} {hp_a : Nat} {hx_a : Nat} {a : Nat → Nat} {pp dd : Nat} (hS : h.1 = fx_S0 a pp dd) (hp : h.1[p]? = some (hp_a, .inl (10, [some (p + 1), none, none, none]))) (hx : h.1[(p + 1)]? = some (hx_a, .inr (0, 960)))
    (H : (fx_V l M_LI_packByAnother (0, 0) Q 0 0 9 [some (.ref 4), some (.ref p), some (.int (zI y)), some (.int (zI o)), some (.int (zI (-1))), some (.int (zI 0)), some (.int (zI 0)), none, none, none, none] [] h)) :
    fx_Mt l M_LI_packByAnother (0, 0) [.ref 4, .ref p, .int (zI y), .int (zI o)] h Q := by
  refine fx_entry (ls := [some (.ref 4), some (.ref p), some (.int (zI y)), some (.int (zI o)), none, none, none, none, none, none, none]) (by decide) (Nat.le_of_ble_eq_true rfl) rfl ?_
  refine fx_iconst d_LI_packByAnother_0 ?_
  refine fx_istore (ls2 := [some (.ref 4), some (.ref p), some (.int (zI y)), some (.int (zI o)), some (.int (zI (-1))), none, none, none, none, none, none]) d_LI_packByAnother_1 (by decide) rfl ?_
  refine fx_iconst d_LI_packByAnother_3 ?_
  refine fx_istore (ls2 := [some (.ref 4), some (.ref p), some (.int (zI y)), some (.int (zI o)), some (.int (zI (-1))), some (.int (zI 0)), none, none, none, none, none]) d_LI_packByAnother_4 (by decide) rfl ?_
  refine fx_iconst d_LI_packByAnother_6 ?_
  refine fx_istore (ls2 := [some (.ref 4), some (.ref p), some (.int (zI y)), some (.int (zI o)), some (.int (zI (-1))), some (.int (zI 0)), some (.int (zI 0)), none, none, none, none]) d_LI_packByAnother_7 (by decide) rfl ?_
  exact H

set_option maxRecDepth 100000 in
set_option maxHeartbeats 4000000 in
theorem w_LI_packByAnother_9 {l : Launch} {Q : Option Value → fx_H → Prop} {h : fx_H} {p : Nat} {x2 : Int} {x3 : Int} {x4 : Int} {x5 : Int} {x6 : Int} {hp_a : Nat} {hx_a : Nat} {a : Nat → Nat} {pp dd : Nat} (hS : h.1 = fx_S0 a pp dd) (hp : h.1[p]? = some (hp_a, .inl (10, [some (p + 1), none, none, none]))) (hx : h.1[(p + 1)]? = some (hx_a, .inr (0, 960)))
    (H : zR x6 ∧ zR (h.2.1 p 2) ∧ (((h.2.1 p 2) < x6 → Q none h) ∧ (¬ ((h.2.1 p 2) < x6) → zR x4 ∧ (((h.2.1 p 2) ≤ x4 → Q none h) ∧ (¬ ((h.2.1 p 2) ≤ x4) → fx_Mt l M_PI_firstUnlike (0, 0) [.ref p, .int (zI x2), .int (zI (x4 + 1)), .int (zI x5)] h (fun v h6 => ∃ r8 : Int, v = some (.int (zI r8)) ∧ h6.1 = h.1 ∧ fx_Mt l M_PI_firstChange (0, 0) [.ref p, .int (zI x3), .int (zI (x4 + 1)), .int (zI x5)] h6 (fun v h9 => ∃ r11 : Int, v = some (.int (zI r11)) ∧ h9.1 = h6.1 ∧ fx_Mt l M_PI_firstUnlike (0, 0) [.ref p, .int (zI x3), .int (zI (r11 + 1)), .int (zI (1 - x5))] h9 (fun v h12 => ∃ r14 : Int, v = some (.int (zI r14)) ∧ h12.1 = h9.1 ∧ zR r14 ∧ zR r8 ∧ ((r8 ≤ r14 → zR (r11 - 3) ∧ ((r8 < (r11 - 3) → fx_Mt l M_PI_firstUnlike (0, 0) [.ref p, .int (zI x2), .int (zI (r8 + 1)), .int (zI (1 - x5))] h12 (fun v h20 => ∃ r22 : Int, v = some (.int (zI r22)) ∧ h20.1 = h12.1 ∧ fx_Mt l M_BY_appendCode (0, 0) [.ref 1, .int (zI (fx_tMD.getD 8 0))] h20 (fun v h23 => v = none ∧ h23.1 = h20.1 ∧ fx_Mt l M_LI_runCode (0, 0) [.int (zI (r8 - (if x4 < 0 then 0 else x4))), .int (zI x5)] h23 (fun v h25 => ∃ r27 : Int, v = some (.int (zI r27)) ∧ h25.1 = h23.1 ∧ fx_Mt l M_BY_appendCode (0, 0) [.ref 1, .int (zI r27)] h25 (fun v h28 => v = none ∧ h28.1 = h25.1 ∧ fx_Mt l M_LI_runCode (0, 0) [.int (zI (r22 - r8)), .int (zI (1 - x5))] h28 (fun v h30 => ∃ r32 : Int, v = some (.int (zI r32)) ∧ h30.1 = h28.1 ∧ fx_Mt l M_BY_appendCode (0, 0) [.ref 1, .int (zI r32)] h30 (fun v h33 => v = none ∧ h33.1 = h30.1 ∧ (fx_V l M_LI_packByAnother (0, 0) Q 0 0 9 [some (.ref 4), some (.ref p), some (.int (zI x2)), some (.int (zI x3)), some (.int (zI r22)), some (.int (zI x5)), some (.int (zI (x6 + 1))), none, none, none, none] [] h33)))))))) ∧ (¬ (r8 < (r11 - 3)) → zR (r11 + 3) ∧ (((r11 + 3) < r8 → fx_Mt l M_PI_firstUnlike (0, 0) [.ref p, .int (zI x2), .int (zI (r8 + 1)), .int (zI (1 - x5))] h12 (fun v h37 => ∃ r39 : Int, v = some (.int (zI r39)) ∧ h37.1 = h12.1 ∧ fx_Mt l M_BY_appendCode (0, 0) [.ref 1, .int (zI (fx_tMD.getD 8 0))] h37 (fun v h40 => v = none ∧ h40.1 = h37.1 ∧ fx_Mt l M_LI_runCode (0, 0) [.int (zI (r8 - (if x4 < 0 then 0 else x4))), .int (zI x5)] h40 (fun v h42 => ∃ r44 : Int, v = some (.int (zI r44)) ∧ h42.1 = h40.1 ∧ fx_Mt l M_BY_appendCode (0, 0) [.ref 1, .int (zI r44)] h42 (fun v h45 => v = none ∧ h45.1 = h42.1 ∧ fx_Mt l M_LI_runCode (0, 0) [.int (zI (r39 - r8)), .int (zI (1 - x5))] h45 (fun v h47 => ∃ r49 : Int, v = some (.int (zI r49)) ∧ h47.1 = h45.1 ∧ fx_Mt l M_BY_appendCode (0, 0) [.ref 1, .int (zI r49)] h47 (fun v h50 => v = none ∧ h50.1 = h47.1 ∧ (fx_V l M_LI_packByAnother (0, 0) Q 0 0 9 [some (.ref 4), some (.ref p), some (.int (zI x2)), some (.int (zI x3)), some (.int (zI r39)), some (.int (zI x5)), some (.int (zI (x6 + 1))), none, none, none, none] [] h50)))))))) ∧ (¬ ((r11 + 3) < r8) → 0 ≤ ((r8 - r11) + 3) ∧ ((r8 - r11) + 3) < 9 ∧ fx_Mt l M_BY_appendCode (0, 0) [.ref 1, .int (zI (fx_tMD.getD ((r8 - r11) + 3).toNat 0))] h12 (fun v h54 => v = none ∧ h54.1 = h12.1 ∧ (fx_V l M_LI_packByAnother (0, 0) Q 0 0 9 [some (.ref 4), some (.ref p), some (.int (zI x2)), some (.int (zI x3)), some (.int (zI r8)), some (.int (zI (1 - x5))), some (.int (zI (x6 + 1))), none, none, none, none] [] h54))))))) ∧ (¬ (r8 ≤ r14) → fx_Mt l M_BY_appendCode (0, 0) [.ref 1, .int (zI (fx_tMD.getD 7 0))] h12 (fun v h56 => v = none ∧ h56.1 = h12.1 ∧ (fx_V l M_LI_packByAnother (0, 0) Q 0 0 9 [some (.ref 4), some (.ref p), some (.int (zI x2)), some (.int (zI x3)), some (.int (zI r14)), some (.int (zI x5)), some (.int (zI (x6 + 1))), none, none, none, none] [] h56)))))))))))) :
    fx_V l M_LI_packByAnother (0, 0) Q 0 0 9 [some (.ref 4), some (.ref p), some (.int (zI x2)), some (.int (zI x3)), some (.int (zI x4)), some (.int (zI x5)), some (.int (zI x6)), none, none, none, none] [] h := by
  refine fx_iload d_LI_packByAnother_9 rfl ?_
  refine fx_aload_n (i := 1) d_LI_packByAnother_11 rfl rfl ?_
  refine fx_getI d_LI_packByAnother_12 lk_LI_53 hp rfl ?_
  obtain ⟨hz1, H⟩ := H
  obtain ⟨hz2, H⟩ := H
  refine fx_icmp_gt (t := 222) (n := 18) d_LI_packByAnother_15 hz1 hz2 (fun z3 => ?_) (fun z3 => ?_)
  · replace H := H.1 z3
    exact fx_end none ⟨rfl, d_LI_packByAnother_222⟩ (Nat.le_refl _) (Nat.le_refl _) rfl H
  · replace H := H.2 z3
    refine fx_iload d_LI_packByAnother_18 rfl ?_
    refine fx_aload_n (i := 1) d_LI_packByAnother_20 rfl rfl ?_
    refine fx_getI d_LI_packByAnother_21 lk_LI_53 hp rfl ?_
    obtain ⟨hz4, H⟩ := H
    refine fx_icmp_ge (t := 222) (n := 27) d_LI_packByAnother_24 hz4 hz2 (fun z5 => ?_) (fun z5 => ?_)
    · replace H := H.1 z5
      exact fx_end none ⟨rfl, d_LI_packByAnother_222⟩ (Nat.le_refl _) (Nat.le_refl _) rfl H
    · replace H := H.2 z5
      refine fx_aload_n (i := 1) d_LI_packByAnother_27 rfl rfl ?_
      refine fx_iload_n (i := 2) d_LI_packByAnother_28 rfl rfl ?_
      refine fx_iload d_LI_packByAnother_29 rfl ?_
      refine fx_iconst d_LI_packByAnother_31 ?_
      refine fx_iadd d_LI_packByAnother_32 ?_
      refine fx_iload d_LI_packByAnother_33 rfl ?_
      refine fx_callV (M' := M_PI_firstUnlike) (B' := (0, 0)) (vs := [.int (zI x2), .int (zI (x4 + 1)), .int (zI x5)]) (rest := []) (c1 := 0) (s1 := 0) (n := 38) d_LI_packByAnother_35 ca_LI_packByAnother_59 hp rfl rfl rfl ⟨by decide, by decide⟩ (Nat.le_of_ble_eq_true rfl) (Or.inl rfl) (fx_Mt.mono H fun v h6 hv => ?_)
      obtain ⟨r8, rfl, e7, H⟩ := hv
      have hS6 := e7.trans hS
      have hp6 : h6.1[p]? = some (hp_a, .inl (10, [some (p + 1), none, none, none])) := by rw [e7]; exact hp
      have hx6 : h6.1[(p + 1)]? = some (hx_a, .inr (0, 960)) := by rw [e7]; exact hx
      show fx_V l M_LI_packByAnother (0, 0) Q 0 0 38 [some (.ref 4), some (.ref p), some (.int (zI x2)), some (.int (zI x3)), some (.int (zI x4)), some (.int (zI x5)), some (.int (zI x6)), none, none, none, none] [.int (zI r8)] h6
      refine fx_istore (ls2 := [some (.ref 4), some (.ref p), some (.int (zI x2)), some (.int (zI x3)), some (.int (zI x4)), some (.int (zI x5)), some (.int (zI x6)), some (.int (zI r8)), none, none, none]) d_LI_packByAnother_38 (by decide) rfl ?_
      refine fx_aload_n (i := 1) d_LI_packByAnother_40 rfl rfl ?_
      refine fx_iload_n (i := 3) d_LI_packByAnother_41 rfl rfl ?_
      refine fx_iload d_LI_packByAnother_42 rfl ?_
      refine fx_iconst d_LI_packByAnother_44 ?_
      refine fx_iadd d_LI_packByAnother_45 ?_
      refine fx_iload d_LI_packByAnother_46 rfl ?_
      refine fx_callV (M' := M_PI_firstChange) (B' := (0, 0)) (vs := [.int (zI x3), .int (zI (x4 + 1)), .int (zI x5)]) (rest := []) (c1 := 0) (s1 := 0) (n := 51) d_LI_packByAnother_48 ca_LI_packByAnother_84 hp6 rfl rfl rfl ⟨by decide, by decide⟩ (Nat.le_of_ble_eq_true rfl) (Or.inl rfl) (fx_Mt.mono H fun v h9 hv => ?_)
      obtain ⟨r11, rfl, e10, H⟩ := hv
      have hS9 := e10.trans hS6
      have hp9 : h9.1[p]? = some (hp_a, .inl (10, [some (p + 1), none, none, none])) := by rw [e10]; exact hp6
      have hx9 : h9.1[(p + 1)]? = some (hx_a, .inr (0, 960)) := by rw [e10]; exact hx6
      show fx_V l M_LI_packByAnother (0, 0) Q 0 0 51 [some (.ref 4), some (.ref p), some (.int (zI x2)), some (.int (zI x3)), some (.int (zI x4)), some (.int (zI x5)), some (.int (zI x6)), some (.int (zI r8)), none, none, none] [.int (zI r11)] h9
      refine fx_istore (ls2 := [some (.ref 4), some (.ref p), some (.int (zI x2)), some (.int (zI x3)), some (.int (zI x4)), some (.int (zI x5)), some (.int (zI x6)), some (.int (zI r8)), some (.int (zI r11)), none, none]) d_LI_packByAnother_51 (by decide) rfl ?_
      refine fx_aload_n (i := 1) d_LI_packByAnother_53 rfl rfl ?_
      refine fx_iload_n (i := 3) d_LI_packByAnother_54 rfl rfl ?_
      refine fx_iload d_LI_packByAnother_55 rfl ?_
      refine fx_iconst d_LI_packByAnother_57 ?_
      refine fx_iadd d_LI_packByAnother_58 ?_
      refine fx_iconst d_LI_packByAnother_59 ?_
      refine fx_iload d_LI_packByAnother_60 rfl ?_
      refine fx_isub d_LI_packByAnother_62 ?_
      refine fx_callV (M' := M_PI_firstUnlike) (B' := (0, 0)) (vs := [.int (zI x3), .int (zI (r11 + 1)), .int (zI (1 - x5))]) (rest := []) (c1 := 0) (s1 := 0) (n := 66) d_LI_packByAnother_63 ca_LI_packByAnother_59 hp9 rfl rfl rfl ⟨by decide, by decide⟩ (Nat.le_of_ble_eq_true rfl) (Or.inl rfl) (fx_Mt.mono H fun v h12 hv => ?_)
      obtain ⟨r14, rfl, e13, H⟩ := hv
      have hS12 := e13.trans hS9
      have hp12 : h12.1[p]? = some (hp_a, .inl (10, [some (p + 1), none, none, none])) := by rw [e13]; exact hp9
      have hx12 : h12.1[(p + 1)]? = some (hx_a, .inr (0, 960)) := by rw [e13]; exact hx9
      show fx_V l M_LI_packByAnother (0, 0) Q 0 0 66 [some (.ref 4), some (.ref p), some (.int (zI x2)), some (.int (zI x3)), some (.int (zI x4)), some (.int (zI x5)), some (.int (zI x6)), some (.int (zI r8)), some (.int (zI r11)), none, none] [.int (zI r14)] h12
      refine fx_istore (ls2 := [some (.ref 4), some (.ref p), some (.int (zI x2)), some (.int (zI x3)), some (.int (zI x4)), some (.int (zI x5)), some (.int (zI x6)), some (.int (zI r8)), some (.int (zI r11)), some (.int (zI r14)), none]) d_LI_packByAnother_66 (by decide) rfl ?_
      refine fx_iload d_LI_packByAnother_68 rfl ?_
      refine fx_iload d_LI_packByAnother_70 rfl ?_
      obtain ⟨hz15, H⟩ := H
      obtain ⟨hz16, H⟩ := H
      refine fx_icmp_ge (t := 95) (n := 75) d_LI_packByAnother_72 hz15 hz16 (fun z17 => ?_) (fun z17 => ?_)
      · replace H := H.1 z17
        refine fx_iload d_LI_packByAnother_95 rfl ?_
        refine fx_iload d_LI_packByAnother_97 rfl ?_
        refine fx_iconst d_LI_packByAnother_99 ?_
        refine fx_isub d_LI_packByAnother_100 ?_
        obtain ⟨hz18, H⟩ := H
        refine fx_icmp_lt (t := 144) (n := 104) d_LI_packByAnother_101 hz16 hz18 (fun z19 => ?_) (fun z19 => ?_)
        · replace H := H.1 z19
          refine fx_aload_n (i := 1) d_LI_packByAnother_144 rfl rfl ?_
          refine fx_iload_n (i := 2) d_LI_packByAnother_145 rfl rfl ?_
          refine fx_iload d_LI_packByAnother_146 rfl ?_
          refine fx_iconst d_LI_packByAnother_148 ?_
          refine fx_iadd d_LI_packByAnother_149 ?_
          refine fx_iconst d_LI_packByAnother_150 ?_
          refine fx_iload d_LI_packByAnother_151 rfl ?_
          refine fx_isub d_LI_packByAnother_153 ?_
          refine fx_callV (M' := M_PI_firstUnlike) (B' := (0, 0)) (vs := [.int (zI x2), .int (zI (r8 + 1)), .int (zI (1 - x5))]) (rest := []) (c1 := 0) (s1 := 0) (n := 157) d_LI_packByAnother_154 ca_LI_packByAnother_59 hp12 rfl rfl rfl ⟨by decide, by decide⟩ (Nat.le_of_ble_eq_true rfl) (Or.inl rfl) (fx_Mt.mono H fun v h20 hv => ?_)
          obtain ⟨r22, rfl, e21, H⟩ := hv
          have hS20 := e21.trans hS12
          have hp20 : h20.1[p]? = some (hp_a, .inl (10, [some (p + 1), none, none, none])) := by rw [e21]; exact hp12
          have hx20 : h20.1[(p + 1)]? = some (hx_a, .inr (0, 960)) := by rw [e21]; exact hx12
          show fx_V l M_LI_packByAnother (0, 0) Q 0 0 157 [some (.ref 4), some (.ref p), some (.int (zI x2)), some (.int (zI x3)), some (.int (zI x4)), some (.int (zI x5)), some (.int (zI x6)), some (.int (zI r8)), some (.int (zI r11)), some (.int (zI r14)), none] [.int (zI r22)] h20
          refine fx_istore (ls2 := [some (.ref 4), some (.ref p), some (.int (zI x2)), some (.int (zI x3)), some (.int (zI x4)), some (.int (zI x5)), some (.int (zI x6)), some (.int (zI r8)), some (.int (zI r11)), some (.int (zI r14)), some (.int (zI r22))]) d_LI_packByAnother_157 (by decide) rfl ?_
          refine fx_aload_n (i := 0) d_LI_packByAnother_159 rfl rfl ?_
          refine fx_getR (q := 1) d_LI_packByAnother_160 lk_LI_9 (at_4 (h := _) hS20) rfl rfl ?_
          refine fx_gets (k0 := 3) d_LI_packByAnother_163 ls_LI_38 ?_
          refine fx_bipush (v := 8) d_LI_packByAnother_166 rfl ?_
          refine fx_tald (k0 := 3) d_LI_packByAnother_168 rfl (by decide) (by decide) (by decide) ?_
          refine fx_callV (M' := M_BY_appendCode) (B' := (0, 0)) (vs := [.int (zI (fx_tMD.getD 8 0))]) (rest := []) (c1 := 0) (s1 := 0) (n := 172) d_LI_packByAnother_169 ca_LI_packByAnother_66 (at_1 (h := _) hS20) rfl rfl rfl ⟨by decide, by decide⟩ (Nat.le_of_ble_eq_true rfl) (Or.inl rfl) (fx_Mt.mono H fun v h23 hv => ?_)
          obtain ⟨rfl, e24, H⟩ := hv
          have hS23 := e24.trans hS20
          have hp23 : h23.1[p]? = some (hp_a, .inl (10, [some (p + 1), none, none, none])) := by rw [e24]; exact hp20
          have hx23 : h23.1[(p + 1)]? = some (hx_a, .inr (0, 960)) := by rw [e24]; exact hx20
          show fx_V l M_LI_packByAnother (0, 0) Q 0 0 172 [some (.ref 4), some (.ref p), some (.int (zI x2)), some (.int (zI x3)), some (.int (zI x4)), some (.int (zI x5)), some (.int (zI x6)), some (.int (zI r8)), some (.int (zI r11)), some (.int (zI r14)), some (.int (zI r22))] [] h23
          refine fx_aload_n (i := 0) d_LI_packByAnother_172 rfl rfl ?_
          refine fx_getR (q := 1) d_LI_packByAnother_173 lk_LI_9 (at_4 (h := _) hS23) rfl rfl ?_
          refine fx_iload d_LI_packByAnother_176 rfl ?_
          refine fx_iload d_LI_packByAnother_178 rfl ?_
          refine fx_iconst d_LI_packByAnother_180 ?_
          refine fx_max d_LI_packByAnother_181 mm_LI_50 mw_max_s mw_i mw_max_c ⟨by decide, by decide⟩ (Nat.le_of_ble_eq_true rfl) ⟨Nat.le_refl _, Nat.le_refl _⟩ hz4 (show zR 0 by decide) ?_
          refine fx_isub d_LI_packByAnother_184 ?_
          refine fx_iload d_LI_packByAnother_185 rfl ?_
          refine fx_callS (M' := M_LI_runCode) (B' := (0, 0)) (vs := [.int (zI (r8 - (if x4 < 0 then 0 else x4))), .int (zI x5)]) (rest := [.ref 1]) (c1 := 0) (s1 := 0) (n := 190) d_LI_packByAnother_187 ca_LI_packByAnother_63 rfl rfl ⟨by decide, by decide⟩ (Nat.le_of_ble_eq_true rfl) (Or.inl rfl) (fx_Mt.mono H fun v h25 hv => ?_)
          obtain ⟨r27, rfl, e26, H⟩ := hv
          have hS25 := e26.trans hS23
          have hp25 : h25.1[p]? = some (hp_a, .inl (10, [some (p + 1), none, none, none])) := by rw [e26]; exact hp23
          have hx25 : h25.1[(p + 1)]? = some (hx_a, .inr (0, 960)) := by rw [e26]; exact hx23
          show fx_V l M_LI_packByAnother (0, 0) Q 0 0 190 [some (.ref 4), some (.ref p), some (.int (zI x2)), some (.int (zI x3)), some (.int (zI x4)), some (.int (zI x5)), some (.int (zI x6)), some (.int (zI r8)), some (.int (zI r11)), some (.int (zI r14)), some (.int (zI r22))] [.int (zI r27), .ref 1] h25
          refine fx_callV (M' := M_BY_appendCode) (B' := (0, 0)) (vs := [.int (zI r27)]) (rest := []) (c1 := 0) (s1 := 0) (n := 193) d_LI_packByAnother_190 ca_LI_packByAnother_66 (at_1 (h := _) hS25) rfl rfl rfl ⟨by decide, by decide⟩ (Nat.le_of_ble_eq_true rfl) (Or.inl rfl) (fx_Mt.mono H fun v h28 hv => ?_)
          obtain ⟨rfl, e29, H⟩ := hv
          have hS28 := e29.trans hS25
          have hp28 : h28.1[p]? = some (hp_a, .inl (10, [some (p + 1), none, none, none])) := by rw [e29]; exact hp25
          have hx28 : h28.1[(p + 1)]? = some (hx_a, .inr (0, 960)) := by rw [e29]; exact hx25
          show fx_V l M_LI_packByAnother (0, 0) Q 0 0 193 [some (.ref 4), some (.ref p), some (.int (zI x2)), some (.int (zI x3)), some (.int (zI x4)), some (.int (zI x5)), some (.int (zI x6)), some (.int (zI r8)), some (.int (zI r11)), some (.int (zI r14)), some (.int (zI r22))] [] h28
          refine fx_aload_n (i := 0) d_LI_packByAnother_193 rfl rfl ?_
          refine fx_getR (q := 1) d_LI_packByAnother_194 lk_LI_9 (at_4 (h := _) hS28) rfl rfl ?_
          refine fx_iload d_LI_packByAnother_197 rfl ?_
          refine fx_iload d_LI_packByAnother_199 rfl ?_
          refine fx_isub d_LI_packByAnother_201 ?_
          refine fx_iconst d_LI_packByAnother_202 ?_
          refine fx_iload d_LI_packByAnother_203 rfl ?_
          refine fx_isub d_LI_packByAnother_205 ?_
          refine fx_callS (M' := M_LI_runCode) (B' := (0, 0)) (vs := [.int (zI (r22 - r8)), .int (zI (1 - x5))]) (rest := [.ref 1]) (c1 := 0) (s1 := 0) (n := 209) d_LI_packByAnother_206 ca_LI_packByAnother_63 rfl rfl ⟨by decide, by decide⟩ (Nat.le_of_ble_eq_true rfl) (Or.inl rfl) (fx_Mt.mono H fun v h30 hv => ?_)
          obtain ⟨r32, rfl, e31, H⟩ := hv
          have hS30 := e31.trans hS28
          have hp30 : h30.1[p]? = some (hp_a, .inl (10, [some (p + 1), none, none, none])) := by rw [e31]; exact hp28
          have hx30 : h30.1[(p + 1)]? = some (hx_a, .inr (0, 960)) := by rw [e31]; exact hx28
          show fx_V l M_LI_packByAnother (0, 0) Q 0 0 209 [some (.ref 4), some (.ref p), some (.int (zI x2)), some (.int (zI x3)), some (.int (zI x4)), some (.int (zI x5)), some (.int (zI x6)), some (.int (zI r8)), some (.int (zI r11)), some (.int (zI r14)), some (.int (zI r22))] [.int (zI r32), .ref 1] h30
          refine fx_callV (M' := M_BY_appendCode) (B' := (0, 0)) (vs := [.int (zI r32)]) (rest := []) (c1 := 0) (s1 := 0) (n := 212) d_LI_packByAnother_209 ca_LI_packByAnother_66 (at_1 (h := _) hS30) rfl rfl rfl ⟨by decide, by decide⟩ (Nat.le_of_ble_eq_true rfl) (Or.inl rfl) (fx_Mt.mono H fun v h33 hv => ?_)
          obtain ⟨rfl, e34, H⟩ := hv
          have hS33 := e34.trans hS30
          have hp33 : h33.1[p]? = some (hp_a, .inl (10, [some (p + 1), none, none, none])) := by rw [e34]; exact hp30
          have hx33 : h33.1[(p + 1)]? = some (hx_a, .inr (0, 960)) := by rw [e34]; exact hx30
          show fx_V l M_LI_packByAnother (0, 0) Q 0 0 212 [some (.ref 4), some (.ref p), some (.int (zI x2)), some (.int (zI x3)), some (.int (zI x4)), some (.int (zI x5)), some (.int (zI x6)), some (.int (zI r8)), some (.int (zI r11)), some (.int (zI r14)), some (.int (zI r22))] [] h33
          refine fx_iload d_LI_packByAnother_212 rfl ?_
          refine fx_istore (ls2 := [some (.ref 4), some (.ref p), some (.int (zI x2)), some (.int (zI x3)), some (.int (zI r22)), some (.int (zI x5)), some (.int (zI x6)), some (.int (zI r8)), some (.int (zI r11)), some (.int (zI r14)), some (.int (zI r22))]) d_LI_packByAnother_214 (by decide) rfl ?_
          refine fx_iinc (v := x6 + 1) (ls2 := [some (.ref 4), some (.ref p), some (.int (zI x2)), some (.int (zI x3)), some (.int (zI r22)), some (.int (zI x5)), some (.int (zI (x6 + 1))), some (.int (zI r8)), some (.int (zI r11)), some (.int (zI r14)), some (.int (zI r22))]) d_LI_packByAnother_216 rfl rfl (by decide) rfl ?_
          refine fx_goto (n := 9) d_LI_packByAnother_219 ?_
          exact fx_fewer [some (.ref 4), some (.ref p), some (.int (zI x2)), some (.int (zI x3)), some (.int (zI r22)), some (.int (zI x5)), some (.int (zI (x6 + 1))), none, none, none, none] ⟨rfl, rfl, rfl, rfl, rfl, rfl, rfl, trivial⟩ H
        · replace H := H.2 z19
          refine fx_iload d_LI_packByAnother_104 rfl ?_
          refine fx_iload d_LI_packByAnother_106 rfl ?_
          refine fx_iconst d_LI_packByAnother_108 ?_
          refine fx_iadd d_LI_packByAnother_109 ?_
          obtain ⟨hz35, H⟩ := H
          refine fx_icmp_gt (t := 144) (n := 113) d_LI_packByAnother_110 hz16 hz35 (fun z36 => ?_) (fun z36 => ?_)
          · replace H := H.1 z36
            refine fx_aload_n (i := 1) d_LI_packByAnother_144 rfl rfl ?_
            refine fx_iload_n (i := 2) d_LI_packByAnother_145 rfl rfl ?_
            refine fx_iload d_LI_packByAnother_146 rfl ?_
            refine fx_iconst d_LI_packByAnother_148 ?_
            refine fx_iadd d_LI_packByAnother_149 ?_
            refine fx_iconst d_LI_packByAnother_150 ?_
            refine fx_iload d_LI_packByAnother_151 rfl ?_
            refine fx_isub d_LI_packByAnother_153 ?_
            refine fx_callV (M' := M_PI_firstUnlike) (B' := (0, 0)) (vs := [.int (zI x2), .int (zI (r8 + 1)), .int (zI (1 - x5))]) (rest := []) (c1 := 0) (s1 := 0) (n := 157) d_LI_packByAnother_154 ca_LI_packByAnother_59 hp12 rfl rfl rfl ⟨by decide, by decide⟩ (Nat.le_of_ble_eq_true rfl) (Or.inl rfl) (fx_Mt.mono H fun v h37 hv => ?_)
            obtain ⟨r39, rfl, e38, H⟩ := hv
            have hS37 := e38.trans hS12
            have hp37 : h37.1[p]? = some (hp_a, .inl (10, [some (p + 1), none, none, none])) := by rw [e38]; exact hp12
            have hx37 : h37.1[(p + 1)]? = some (hx_a, .inr (0, 960)) := by rw [e38]; exact hx12
            show fx_V l M_LI_packByAnother (0, 0) Q 0 0 157 [some (.ref 4), some (.ref p), some (.int (zI x2)), some (.int (zI x3)), some (.int (zI x4)), some (.int (zI x5)), some (.int (zI x6)), some (.int (zI r8)), some (.int (zI r11)), some (.int (zI r14)), none] [.int (zI r39)] h37
            refine fx_istore (ls2 := [some (.ref 4), some (.ref p), some (.int (zI x2)), some (.int (zI x3)), some (.int (zI x4)), some (.int (zI x5)), some (.int (zI x6)), some (.int (zI r8)), some (.int (zI r11)), some (.int (zI r14)), some (.int (zI r39))]) d_LI_packByAnother_157 (by decide) rfl ?_
            refine fx_aload_n (i := 0) d_LI_packByAnother_159 rfl rfl ?_
            refine fx_getR (q := 1) d_LI_packByAnother_160 lk_LI_9 (at_4 (h := _) hS37) rfl rfl ?_
            refine fx_gets (k0 := 3) d_LI_packByAnother_163 ls_LI_38 ?_
            refine fx_bipush (v := 8) d_LI_packByAnother_166 rfl ?_
            refine fx_tald (k0 := 3) d_LI_packByAnother_168 rfl (by decide) (by decide) (by decide) ?_
            refine fx_callV (M' := M_BY_appendCode) (B' := (0, 0)) (vs := [.int (zI (fx_tMD.getD 8 0))]) (rest := []) (c1 := 0) (s1 := 0) (n := 172) d_LI_packByAnother_169 ca_LI_packByAnother_66 (at_1 (h := _) hS37) rfl rfl rfl ⟨by decide, by decide⟩ (Nat.le_of_ble_eq_true rfl) (Or.inl rfl) (fx_Mt.mono H fun v h40 hv => ?_)
            obtain ⟨rfl, e41, H⟩ := hv
            have hS40 := e41.trans hS37
            have hp40 : h40.1[p]? = some (hp_a, .inl (10, [some (p + 1), none, none, none])) := by rw [e41]; exact hp37
            have hx40 : h40.1[(p + 1)]? = some (hx_a, .inr (0, 960)) := by rw [e41]; exact hx37
            show fx_V l M_LI_packByAnother (0, 0) Q 0 0 172 [some (.ref 4), some (.ref p), some (.int (zI x2)), some (.int (zI x3)), some (.int (zI x4)), some (.int (zI x5)), some (.int (zI x6)), some (.int (zI r8)), some (.int (zI r11)), some (.int (zI r14)), some (.int (zI r39))] [] h40
            refine fx_aload_n (i := 0) d_LI_packByAnother_172 rfl rfl ?_
            refine fx_getR (q := 1) d_LI_packByAnother_173 lk_LI_9 (at_4 (h := _) hS40) rfl rfl ?_
            refine fx_iload d_LI_packByAnother_176 rfl ?_
            refine fx_iload d_LI_packByAnother_178 rfl ?_
            refine fx_iconst d_LI_packByAnother_180 ?_
            refine fx_max d_LI_packByAnother_181 mm_LI_50 mw_max_s mw_i mw_max_c ⟨by decide, by decide⟩ (Nat.le_of_ble_eq_true rfl) ⟨Nat.le_refl _, Nat.le_refl _⟩ hz4 (show zR 0 by decide) ?_
            refine fx_isub d_LI_packByAnother_184 ?_
            refine fx_iload d_LI_packByAnother_185 rfl ?_
            refine fx_callS (M' := M_LI_runCode) (B' := (0, 0)) (vs := [.int (zI (r8 - (if x4 < 0 then 0 else x4))), .int (zI x5)]) (rest := [.ref 1]) (c1 := 0) (s1 := 0) (n := 190) d_LI_packByAnother_187 ca_LI_packByAnother_63 rfl rfl ⟨by decide, by decide⟩ (Nat.le_of_ble_eq_true rfl) (Or.inl rfl) (fx_Mt.mono H fun v h42 hv => ?_)
            obtain ⟨r44, rfl, e43, H⟩ := hv
            have hS42 := e43.trans hS40
            have hp42 : h42.1[p]? = some (hp_a, .inl (10, [some (p + 1), none, none, none])) := by rw [e43]; exact hp40
            have hx42 : h42.1[(p + 1)]? = some (hx_a, .inr (0, 960)) := by rw [e43]; exact hx40
            show fx_V l M_LI_packByAnother (0, 0) Q 0 0 190 [some (.ref 4), some (.ref p), some (.int (zI x2)), some (.int (zI x3)), some (.int (zI x4)), some (.int (zI x5)), some (.int (zI x6)), some (.int (zI r8)), some (.int (zI r11)), some (.int (zI r14)), some (.int (zI r39))] [.int (zI r44), .ref 1] h42
            refine fx_callV (M' := M_BY_appendCode) (B' := (0, 0)) (vs := [.int (zI r44)]) (rest := []) (c1 := 0) (s1 := 0) (n := 193) d_LI_packByAnother_190 ca_LI_packByAnother_66 (at_1 (h := _) hS42) rfl rfl rfl ⟨by decide, by decide⟩ (Nat.le_of_ble_eq_true rfl) (Or.inl rfl) (fx_Mt.mono H fun v h45 hv => ?_)
            obtain ⟨rfl, e46, H⟩ := hv
            have hS45 := e46.trans hS42
            have hp45 : h45.1[p]? = some (hp_a, .inl (10, [some (p + 1), none, none, none])) := by rw [e46]; exact hp42
            have hx45 : h45.1[(p + 1)]? = some (hx_a, .inr (0, 960)) := by rw [e46]; exact hx42
            show fx_V l M_LI_packByAnother (0, 0) Q 0 0 193 [some (.ref 4), some (.ref p), some (.int (zI x2)), some (.int (zI x3)), some (.int (zI x4)), some (.int (zI x5)), some (.int (zI x6)), some (.int (zI r8)), some (.int (zI r11)), some (.int (zI r14)), some (.int (zI r39))] [] h45
            refine fx_aload_n (i := 0) d_LI_packByAnother_193 rfl rfl ?_
            refine fx_getR (q := 1) d_LI_packByAnother_194 lk_LI_9 (at_4 (h := _) hS45) rfl rfl ?_
            refine fx_iload d_LI_packByAnother_197 rfl ?_
            refine fx_iload d_LI_packByAnother_199 rfl ?_
            refine fx_isub d_LI_packByAnother_201 ?_
            refine fx_iconst d_LI_packByAnother_202 ?_
            refine fx_iload d_LI_packByAnother_203 rfl ?_
            refine fx_isub d_LI_packByAnother_205 ?_
            refine fx_callS (M' := M_LI_runCode) (B' := (0, 0)) (vs := [.int (zI (r39 - r8)), .int (zI (1 - x5))]) (rest := [.ref 1]) (c1 := 0) (s1 := 0) (n := 209) d_LI_packByAnother_206 ca_LI_packByAnother_63 rfl rfl ⟨by decide, by decide⟩ (Nat.le_of_ble_eq_true rfl) (Or.inl rfl) (fx_Mt.mono H fun v h47 hv => ?_)
            obtain ⟨r49, rfl, e48, H⟩ := hv
            have hS47 := e48.trans hS45
            have hp47 : h47.1[p]? = some (hp_a, .inl (10, [some (p + 1), none, none, none])) := by rw [e48]; exact hp45
            have hx47 : h47.1[(p + 1)]? = some (hx_a, .inr (0, 960)) := by rw [e48]; exact hx45
            show fx_V l M_LI_packByAnother (0, 0) Q 0 0 209 [some (.ref 4), some (.ref p), some (.int (zI x2)), some (.int (zI x3)), some (.int (zI x4)), some (.int (zI x5)), some (.int (zI x6)), some (.int (zI r8)), some (.int (zI r11)), some (.int (zI r14)), some (.int (zI r39))] [.int (zI r49), .ref 1] h47
            refine fx_callV (M' := M_BY_appendCode) (B' := (0, 0)) (vs := [.int (zI r49)]) (rest := []) (c1 := 0) (s1 := 0) (n := 212) d_LI_packByAnother_209 ca_LI_packByAnother_66 (at_1 (h := _) hS47) rfl rfl rfl ⟨by decide, by decide⟩ (Nat.le_of_ble_eq_true rfl) (Or.inl rfl) (fx_Mt.mono H fun v h50 hv => ?_)
            obtain ⟨rfl, e51, H⟩ := hv
            have hS50 := e51.trans hS47
            have hp50 : h50.1[p]? = some (hp_a, .inl (10, [some (p + 1), none, none, none])) := by rw [e51]; exact hp47
            have hx50 : h50.1[(p + 1)]? = some (hx_a, .inr (0, 960)) := by rw [e51]; exact hx47
            show fx_V l M_LI_packByAnother (0, 0) Q 0 0 212 [some (.ref 4), some (.ref p), some (.int (zI x2)), some (.int (zI x3)), some (.int (zI x4)), some (.int (zI x5)), some (.int (zI x6)), some (.int (zI r8)), some (.int (zI r11)), some (.int (zI r14)), some (.int (zI r39))] [] h50
            refine fx_iload d_LI_packByAnother_212 rfl ?_
            refine fx_istore (ls2 := [some (.ref 4), some (.ref p), some (.int (zI x2)), some (.int (zI x3)), some (.int (zI r39)), some (.int (zI x5)), some (.int (zI x6)), some (.int (zI r8)), some (.int (zI r11)), some (.int (zI r14)), some (.int (zI r39))]) d_LI_packByAnother_214 (by decide) rfl ?_
            refine fx_iinc (v := x6 + 1) (ls2 := [some (.ref 4), some (.ref p), some (.int (zI x2)), some (.int (zI x3)), some (.int (zI r39)), some (.int (zI x5)), some (.int (zI (x6 + 1))), some (.int (zI r8)), some (.int (zI r11)), some (.int (zI r14)), some (.int (zI r39))]) d_LI_packByAnother_216 rfl rfl (by decide) rfl ?_
            refine fx_goto (n := 9) d_LI_packByAnother_219 ?_
            exact fx_fewer [some (.ref 4), some (.ref p), some (.int (zI x2)), some (.int (zI x3)), some (.int (zI r39)), some (.int (zI x5)), some (.int (zI (x6 + 1))), none, none, none, none] ⟨rfl, rfl, rfl, rfl, rfl, rfl, rfl, trivial⟩ H
          · replace H := H.2 z36
            refine fx_aload_n (i := 0) d_LI_packByAnother_113 rfl rfl ?_
            refine fx_getR (q := 1) d_LI_packByAnother_114 lk_LI_9 (at_4 (h := _) hS12) rfl rfl ?_
            refine fx_gets (k0 := 3) d_LI_packByAnother_117 ls_LI_38 ?_
            refine fx_iload d_LI_packByAnother_120 rfl ?_
            refine fx_iload d_LI_packByAnother_122 rfl ?_
            refine fx_isub d_LI_packByAnother_124 ?_
            refine fx_iconst d_LI_packByAnother_125 ?_
            refine fx_iadd d_LI_packByAnother_126 ?_
            obtain ⟨hn52, H⟩ := H
            obtain ⟨hn53, H⟩ := H
            refine fx_tald (k0 := 3) d_LI_packByAnother_127 rfl hn52 hn53 (by decide) ?_
            refine fx_callV (M' := M_BY_appendCode) (B' := (0, 0)) (vs := [.int (zI (fx_tMD.getD ((r8 - r11) + 3).toNat 0))]) (rest := []) (c1 := 0) (s1 := 0) (n := 131) d_LI_packByAnother_128 ca_LI_packByAnother_66 (at_1 (h := _) hS12) rfl rfl rfl ⟨by decide, by decide⟩ (Nat.le_of_ble_eq_true rfl) (Or.inl rfl) (fx_Mt.mono H fun v h54 hv => ?_)
            obtain ⟨rfl, e55, H⟩ := hv
            have hS54 := e55.trans hS12
            have hp54 : h54.1[p]? = some (hp_a, .inl (10, [some (p + 1), none, none, none])) := by rw [e55]; exact hp12
            have hx54 : h54.1[(p + 1)]? = some (hx_a, .inr (0, 960)) := by rw [e55]; exact hx12
            show fx_V l M_LI_packByAnother (0, 0) Q 0 0 131 [some (.ref 4), some (.ref p), some (.int (zI x2)), some (.int (zI x3)), some (.int (zI x4)), some (.int (zI x5)), some (.int (zI x6)), some (.int (zI r8)), some (.int (zI r11)), some (.int (zI r14)), none] [] h54
            refine fx_iload d_LI_packByAnother_131 rfl ?_
            refine fx_istore (ls2 := [some (.ref 4), some (.ref p), some (.int (zI x2)), some (.int (zI x3)), some (.int (zI r8)), some (.int (zI x5)), some (.int (zI x6)), some (.int (zI r8)), some (.int (zI r11)), some (.int (zI r14)), none]) d_LI_packByAnother_133 (by decide) rfl ?_
            refine fx_iconst d_LI_packByAnother_135 ?_
            refine fx_iload d_LI_packByAnother_136 rfl ?_
            refine fx_isub d_LI_packByAnother_138 ?_
            refine fx_istore (ls2 := [some (.ref 4), some (.ref p), some (.int (zI x2)), some (.int (zI x3)), some (.int (zI r8)), some (.int (zI (1 - x5))), some (.int (zI x6)), some (.int (zI r8)), some (.int (zI r11)), some (.int (zI r14)), none]) d_LI_packByAnother_139 (by decide) rfl ?_
            refine fx_goto (n := 216) d_LI_packByAnother_141 ?_
            refine fx_iinc (v := x6 + 1) (ls2 := [some (.ref 4), some (.ref p), some (.int (zI x2)), some (.int (zI x3)), some (.int (zI r8)), some (.int (zI (1 - x5))), some (.int (zI (x6 + 1))), some (.int (zI r8)), some (.int (zI r11)), some (.int (zI r14)), none]) d_LI_packByAnother_216 rfl rfl (by decide) rfl ?_
            refine fx_goto (n := 9) d_LI_packByAnother_219 ?_
            exact fx_fewer [some (.ref 4), some (.ref p), some (.int (zI x2)), some (.int (zI x3)), some (.int (zI r8)), some (.int (zI (1 - x5))), some (.int (zI (x6 + 1))), none, none, none, none] ⟨rfl, rfl, rfl, rfl, rfl, rfl, rfl, trivial⟩ H
      · replace H := H.2 z17
        refine fx_aload_n (i := 0) d_LI_packByAnother_75 rfl rfl ?_
        refine fx_getR (q := 1) d_LI_packByAnother_76 lk_LI_9 (at_4 (h := _) hS12) rfl rfl ?_
        refine fx_gets (k0 := 3) d_LI_packByAnother_79 ls_LI_38 ?_
        refine fx_bipush (v := 7) d_LI_packByAnother_82 rfl ?_
        refine fx_tald (k0 := 3) d_LI_packByAnother_84 rfl (by decide) (by decide) (by decide) ?_
        refine fx_callV (M' := M_BY_appendCode) (B' := (0, 0)) (vs := [.int (zI (fx_tMD.getD 7 0))]) (rest := []) (c1 := 0) (s1 := 0) (n := 88) d_LI_packByAnother_85 ca_LI_packByAnother_66 (at_1 (h := _) hS12) rfl rfl rfl ⟨by decide, by decide⟩ (Nat.le_of_ble_eq_true rfl) (Or.inl rfl) (fx_Mt.mono H fun v h56 hv => ?_)
        obtain ⟨rfl, e57, H⟩ := hv
        have hS56 := e57.trans hS12
        have hp56 : h56.1[p]? = some (hp_a, .inl (10, [some (p + 1), none, none, none])) := by rw [e57]; exact hp12
        have hx56 : h56.1[(p + 1)]? = some (hx_a, .inr (0, 960)) := by rw [e57]; exact hx12
        show fx_V l M_LI_packByAnother (0, 0) Q 0 0 88 [some (.ref 4), some (.ref p), some (.int (zI x2)), some (.int (zI x3)), some (.int (zI x4)), some (.int (zI x5)), some (.int (zI x6)), some (.int (zI r8)), some (.int (zI r11)), some (.int (zI r14)), none] [] h56
        refine fx_iload d_LI_packByAnother_88 rfl ?_
        refine fx_istore (ls2 := [some (.ref 4), some (.ref p), some (.int (zI x2)), some (.int (zI x3)), some (.int (zI r14)), some (.int (zI x5)), some (.int (zI x6)), some (.int (zI r8)), some (.int (zI r11)), some (.int (zI r14)), none]) d_LI_packByAnother_90 (by decide) rfl ?_
        refine fx_goto (n := 216) d_LI_packByAnother_92 ?_
        refine fx_iinc (v := x6 + 1) (ls2 := [some (.ref 4), some (.ref p), some (.int (zI x2)), some (.int (zI x3)), some (.int (zI r14)), some (.int (zI x5)), some (.int (zI (x6 + 1))), some (.int (zI r8)), some (.int (zI r11)), some (.int (zI r14)), none]) d_LI_packByAnother_216 rfl rfl (by decide) rfl ?_
        refine fx_goto (n := 9) d_LI_packByAnother_219 ?_
        exact fx_fewer [some (.ref 4), some (.ref p), some (.int (zI x2)), some (.int (zI x3)), some (.int (zI r14)), some (.int (zI x5)), some (.int (zI (x6 + 1))), none, none, none, none] ⟨rfl, rfl, rfl, rfl, rfl, rfl, rfl, trivial⟩ H

set_option maxRecDepth 100000 in
set_option maxHeartbeats 4000000 in
theorem e_LI_unpackByAnother {l : Launch} {Q : Option Value → fx_H → Prop} {h : fx_H} {p : Nat} {y : Int} {o : Int} {hp_a : Nat} {hx_a : Nat} {a : Nat → Nat} {pp dd : Nat} (hS : h.1 = fx_S0 a pp dd) (hp : h.1[p]? = some (hp_a, .inl (10, [some (p + 1), none, none, none]))) (hx : h.1[(p + 1)]? = some (hx_a, .inr (0, 960)))
    (H : (fx_V l M_LI_unpackByAnother (0, 0) Q 0 0 9 [some (.ref 4), some (.ref p), some (.int (zI y)), some (.int (zI o)), some (.int (zI (-1))), some (.int (zI 0)), some (.int (zI 0)), none, none] [] h)) :
    fx_Mt l M_LI_unpackByAnother (0, 0) [.ref 4, .ref p, .int (zI y), .int (zI o)] h Q := by
  refine fx_entry (ls := [some (.ref 4), some (.ref p), some (.int (zI y)), some (.int (zI o)), none, none, none, none, none]) (by decide) (Nat.le_of_ble_eq_true rfl) rfl ?_
  refine fx_iconst d_LI_unpackByAnother_0 ?_
  refine fx_istore (ls2 := [some (.ref 4), some (.ref p), some (.int (zI y)), some (.int (zI o)), some (.int (zI (-1))), none, none, none, none]) d_LI_unpackByAnother_1 (by decide) rfl ?_
  refine fx_iconst d_LI_unpackByAnother_3 ?_
  refine fx_istore (ls2 := [some (.ref 4), some (.ref p), some (.int (zI y)), some (.int (zI o)), some (.int (zI (-1))), some (.int (zI 0)), none, none, none]) d_LI_unpackByAnother_4 (by decide) rfl ?_
  refine fx_iconst d_LI_unpackByAnother_6 ?_
  refine fx_istore (ls2 := [some (.ref 4), some (.ref p), some (.int (zI y)), some (.int (zI o)), some (.int (zI (-1))), some (.int (zI 0)), some (.int (zI 0)), none, none]) d_LI_unpackByAnother_7 (by decide) rfl ?_
  exact H

set_option maxRecDepth 100000 in
set_option maxHeartbeats 4000000 in
theorem w_LI_unpackByAnother_9 {l : Launch} {Q : Option Value → fx_H → Prop} {h : fx_H} {p : Nat} {x2 : Int} {x3 : Int} {x4 : Int} {x5 : Int} {x6 : Int} {hp_a : Nat} {hx_a : Nat} {a : Nat → Nat} {pp dd : Nat} (hS : h.1 = fx_S0 a pp dd) (hp : h.1[p]? = some (hp_a, .inl (10, [some (p + 1), none, none, none]))) (hx : h.1[(p + 1)]? = some (hx_a, .inr (0, 960)))
    (H : zR x6 ∧ zR (h.2.1 p 2) ∧ (((h.2.1 p 2) < x6 → zR x4 ∧ ((¬ x4 = (h.2.1 p 2) → Q (some (.int (zI 0))) h) ∧ (x4 = (h.2.1 p 2) → Q (some (.int (zI 1))) h))) ∧ (¬ ((h.2.1 p 2) < x6) → zR x4 ∧ (((h.2.1 p 2) ≤ x4 → ((¬ x4 = (h.2.1 p 2) → Q (some (.int (zI 0))) h) ∧ (x4 = (h.2.1 p 2) → Q (some (.int (zI 1))) h))) ∧ (¬ ((h.2.1 p 2) ≤ x4) → fx_Mt l M_CT_next (0, 0) [.ref 9, .ref 3] h (fun v h9 => ∃ r11 : Int, v = some (.int (zI r11)) ∧ h9.1 = h.1 ∧ zR r11 ∧ ((0 ≤ r11 → ((¬ r11 = 8 → fx_Mt l M_LI_endOfMode (0, 0) [.ref 4, .ref p, .int (zI x3), .int (zI x4), .int (zI x5), .int (zI r11)] h9 (fun v h15 => ∃ r17 : Int, v = some (.int (zI r17)) ∧ h15.1 = h9.1 ∧ fx_Mt l M_LI_paintRun (0, 0) [.ref 4, .ref p, .int (zI x2), .int (zI x4), .int (zI r17), .int (zI x5)] h15 (fun v h18 => v = none ∧ h18.1 = h15.1 ∧ ((¬ r11 = 7 → zR r17 ∧ ((r17 ≤ x4 → Q (some (.int (zI 0))) h18) ∧ (¬ (r17 ≤ x4) → zR (h18.2.1 p 2) ∧ ((r17 ≤ (h18.2.1 p 2) → (fx_V l M_LI_unpackByAnother (0, 0) Q 0 0 9 [some (.ref 4), some (.ref p), some (.int (zI x2)), some (.int (zI x3)), some (.int (zI r17)), some (.int (zI (1 - x5))), some (.int (zI (x6 + 1))), none, none] [] h18)) ∧ (¬ (r17 ≤ (h18.2.1 p 2)) → Q (some (.int (zI 0))) h18))))) ∧ (r11 = 7 → zR r17 ∧ ((r17 ≤ x4 → Q (some (.int (zI 0))) h18) ∧ (¬ (r17 ≤ x4) → zR (h18.2.1 p 2) ∧ ((r17 ≤ (h18.2.1 p 2) → (fx_V l M_LI_unpackByAnother (0, 0) Q 0 0 9 [some (.ref 4), some (.ref p), some (.int (zI x2)), some (.int (zI x3)), some (.int (zI r17)), some (.int (zI x5)), some (.int (zI (x6 + 1))), none, none] [] h18)) ∧ (¬ (r17 ≤ (h18.2.1 p 2)) → Q (some (.int (zI 0))) h18))))))))) ∧ (r11 = 8 → fx_Mt l M_LI_unpackTwoRuns (0, 0) [.ref 4, .ref p, .int (zI x2), .int (zI (if x4 < 0 then 0 else x4)), .int (zI x5)] h9 (fun v h29 => ∃ r31 : Int, v = some (.int (zI r31)) ∧ h29.1 = h9.1 ∧ zR r31 ∧ ((r31 ≤ x4 → Q (some (.int (zI 0))) h29) ∧ (¬ (r31 ≤ x4) → zR (h29.2.1 p 2) ∧ ((r31 ≤ (h29.2.1 p 2) → (fx_V l M_LI_unpackByAnother (0, 0) Q 0 0 9 [some (.ref 4), some (.ref p), some (.int (zI x2)), some (.int (zI x3)), some (.int (zI r31)), some (.int (zI x5)), some (.int (zI (x6 + 1))), none, none] [] h29)) ∧ (¬ (r31 ≤ (h29.2.1 p 2)) → Q (some (.int (zI 0))) h29)))))))) ∧ (¬ (0 ≤ r11) → Q (some (.int (zI 0))) h9)))))))) :
    fx_V l M_LI_unpackByAnother (0, 0) Q 0 0 9 [some (.ref 4), some (.ref p), some (.int (zI x2)), some (.int (zI x3)), some (.int (zI x4)), some (.int (zI x5)), some (.int (zI x6)), none, none] [] h := by
  refine fx_iload d_LI_unpackByAnother_9 rfl ?_
  refine fx_aload_n (i := 1) d_LI_unpackByAnother_11 rfl rfl ?_
  refine fx_getI d_LI_unpackByAnother_12 lk_LI_53 hp rfl ?_
  obtain ⟨hz1, H⟩ := H
  obtain ⟨hz2, H⟩ := H
  refine fx_icmp_gt (t := 145) (n := 18) d_LI_unpackByAnother_15 hz1 hz2 (fun z3 => ?_) (fun z3 => ?_)
  · replace H := H.1 z3
    refine fx_iload d_LI_unpackByAnother_145 rfl ?_
    refine fx_aload_n (i := 1) d_LI_unpackByAnother_147 rfl rfl ?_
    refine fx_getI d_LI_unpackByAnother_148 lk_LI_53 hp rfl ?_
    obtain ⟨hz4, H⟩ := H
    refine fx_icmp_ne (t := 158) (n := 154) d_LI_unpackByAnother_151 hz4 hz2 (fun z5 => ?_) (fun z5 => ?_)
    · replace H := H.1 z5
      refine fx_iconst d_LI_unpackByAnother_158 ?_
      exact fx_end (some (.int (zI 0))) ⟨⟨_, rfl, rfl⟩, d_LI_unpackByAnother_159⟩ (Nat.le_refl _) (Nat.le_refl _) rfl H
    · replace H := H.2 z5
      refine fx_iconst d_LI_unpackByAnother_154 ?_
      refine fx_goto (n := 159) d_LI_unpackByAnother_155 ?_
      exact fx_end (some (.int (zI 1))) ⟨⟨_, rfl, rfl⟩, d_LI_unpackByAnother_159⟩ (Nat.le_refl _) (Nat.le_refl _) rfl H
  · replace H := H.2 z3
    refine fx_iload d_LI_unpackByAnother_18 rfl ?_
    refine fx_aload_n (i := 1) d_LI_unpackByAnother_20 rfl rfl ?_
    refine fx_getI d_LI_unpackByAnother_21 lk_LI_53 hp rfl ?_
    obtain ⟨hz6, H⟩ := H
    refine fx_icmp_ge (t := 145) (n := 27) d_LI_unpackByAnother_24 hz6 hz2 (fun z7 => ?_) (fun z7 => ?_)
    · replace H := H.1 z7
      refine fx_iload d_LI_unpackByAnother_145 rfl ?_
      refine fx_aload_n (i := 1) d_LI_unpackByAnother_147 rfl rfl ?_
      refine fx_getI d_LI_unpackByAnother_148 lk_LI_53 hp rfl ?_
      refine fx_icmp_ne (t := 158) (n := 154) d_LI_unpackByAnother_151 hz6 hz2 (fun z8 => ?_) (fun z8 => ?_)
      · replace H := H.1 z8
        refine fx_iconst d_LI_unpackByAnother_158 ?_
        exact fx_end (some (.int (zI 0))) ⟨⟨_, rfl, rfl⟩, d_LI_unpackByAnother_159⟩ (Nat.le_refl _) (Nat.le_refl _) rfl H
      · replace H := H.2 z8
        refine fx_iconst d_LI_unpackByAnother_154 ?_
        refine fx_goto (n := 159) d_LI_unpackByAnother_155 ?_
        exact fx_end (some (.int (zI 1))) ⟨⟨_, rfl, rfl⟩, d_LI_unpackByAnother_159⟩ (Nat.le_refl _) (Nat.le_refl _) rfl H
    · replace H := H.2 z7
      refine fx_aload_n (i := 0) d_LI_unpackByAnother_27 rfl rfl ?_
      refine fx_getR (q := 9) d_LI_unpackByAnother_28 lk_LI_41 (at_4 (h := _) hS) rfl rfl ?_
      refine fx_aload_n (i := 0) d_LI_unpackByAnother_31 rfl rfl ?_
      refine fx_getR (q := 3) d_LI_unpackByAnother_32 lk_LI_15 (at_4 (h := _) hS) rfl rfl ?_
      refine fx_callV (M' := M_CT_next) (B' := (0, 0)) (vs := [.ref 3]) (rest := []) (c1 := 0) (s1 := 0) (n := 38) d_LI_unpackByAnother_35 ca_LI_unpackByAnother_76 (at_9 (h := _) hS) rfl rfl rfl ⟨by decide, by decide⟩ (Nat.le_of_ble_eq_true rfl) (Or.inl rfl) (fx_Mt.mono H fun v h9 hv => ?_)
      obtain ⟨r11, rfl, e10, H⟩ := hv
      have hS9 := e10.trans hS
      have hp9 : h9.1[p]? = some (hp_a, .inl (10, [some (p + 1), none, none, none])) := by rw [e10]; exact hp
      have hx9 : h9.1[(p + 1)]? = some (hx_a, .inr (0, 960)) := by rw [e10]; exact hx
      show fx_V l M_LI_unpackByAnother (0, 0) Q 0 0 38 [some (.ref 4), some (.ref p), some (.int (zI x2)), some (.int (zI x3)), some (.int (zI x4)), some (.int (zI x5)), some (.int (zI x6)), none, none] [.int (zI r11)] h9
      refine fx_istore (ls2 := [some (.ref 4), some (.ref p), some (.int (zI x2)), some (.int (zI x3)), some (.int (zI x4)), some (.int (zI x5)), some (.int (zI x6)), some (.int (zI r11)), none]) d_LI_unpackByAnother_38 (by decide) rfl ?_
      refine fx_iload d_LI_unpackByAnother_40 rfl ?_
      obtain ⟨hz12, H⟩ := H
      refine fx_if_ge (t := 47) (n := 45) d_LI_unpackByAnother_42 hz12 (fun z13 => ?_) (fun z13 => ?_)
      · replace H := H.1 z13
        refine fx_iload d_LI_unpackByAnother_47 rfl ?_
        refine fx_bipush (v := 8) d_LI_unpackByAnother_49 rfl ?_
        refine fx_icmp_ne (t := 73) (n := 54) d_LI_unpackByAnother_51 hz12 (show zR 8 by decide) (fun z14 => ?_) (fun z14 => ?_)
        · replace H := H.1 z14
          refine fx_aload_n (i := 0) d_LI_unpackByAnother_73 rfl rfl ?_
          refine fx_aload_n (i := 1) d_LI_unpackByAnother_74 rfl rfl ?_
          refine fx_iload_n (i := 3) d_LI_unpackByAnother_75 rfl rfl ?_
          refine fx_iload d_LI_unpackByAnother_76 rfl ?_
          refine fx_iload d_LI_unpackByAnother_78 rfl ?_
          refine fx_iload d_LI_unpackByAnother_80 rfl ?_
          refine fx_callV (M' := M_LI_endOfMode) (B' := (0, 0)) (vs := [.ref p, .int (zI x3), .int (zI x4), .int (zI x5), .int (zI r11)]) (rest := []) (c1 := 0) (s1 := 0) (n := 85) d_LI_unpackByAnother_82 ca_LI_unpackByAnother_91 (at_4 (h := _) hS9) rfl rfl rfl ⟨by decide, by decide⟩ (Nat.le_of_ble_eq_true rfl) (Or.inl rfl) (fx_Mt.mono H fun v h15 hv => ?_)
          obtain ⟨r17, rfl, e16, H⟩ := hv
          have hS15 := e16.trans hS9
          have hp15 : h15.1[p]? = some (hp_a, .inl (10, [some (p + 1), none, none, none])) := by rw [e16]; exact hp9
          have hx15 : h15.1[(p + 1)]? = some (hx_a, .inr (0, 960)) := by rw [e16]; exact hx9
          show fx_V l M_LI_unpackByAnother (0, 0) Q 0 0 85 [some (.ref 4), some (.ref p), some (.int (zI x2)), some (.int (zI x3)), some (.int (zI x4)), some (.int (zI x5)), some (.int (zI x6)), some (.int (zI r11)), none] [.int (zI r17)] h15
          refine fx_istore (ls2 := [some (.ref 4), some (.ref p), some (.int (zI x2)), some (.int (zI x3)), some (.int (zI x4)), some (.int (zI x5)), some (.int (zI x6)), some (.int (zI r11)), some (.int (zI r17))]) d_LI_unpackByAnother_85 (by decide) rfl ?_
          refine fx_aload_n (i := 0) d_LI_unpackByAnother_87 rfl rfl ?_
          refine fx_aload_n (i := 1) d_LI_unpackByAnother_88 rfl rfl ?_
          refine fx_iload_n (i := 2) d_LI_unpackByAnother_89 rfl rfl ?_
          refine fx_iload d_LI_unpackByAnother_90 rfl ?_
          refine fx_iload d_LI_unpackByAnother_92 rfl ?_
          refine fx_iload d_LI_unpackByAnother_94 rfl ?_
          refine fx_callV (M' := M_LI_paintRun) (B' := (0, 0)) (vs := [.ref p, .int (zI x2), .int (zI x4), .int (zI r17), .int (zI x5)]) (rest := []) (c1 := 0) (s1 := 0) (n := 99) d_LI_unpackByAnother_96 ca_LI_unpackByAnother_80 (at_4 (h := _) hS15) rfl rfl rfl ⟨by decide, by decide⟩ (Nat.le_of_ble_eq_true rfl) (Or.inl rfl) (fx_Mt.mono H fun v h18 hv => ?_)
          obtain ⟨rfl, e19, H⟩ := hv
          have hS18 := e19.trans hS15
          have hp18 : h18.1[p]? = some (hp_a, .inl (10, [some (p + 1), none, none, none])) := by rw [e19]; exact hp15
          have hx18 : h18.1[(p + 1)]? = some (hx_a, .inr (0, 960)) := by rw [e19]; exact hx15
          show fx_V l M_LI_unpackByAnother (0, 0) Q 0 0 99 [some (.ref 4), some (.ref p), some (.int (zI x2)), some (.int (zI x3)), some (.int (zI x4)), some (.int (zI x5)), some (.int (zI x6)), some (.int (zI r11)), some (.int (zI r17))] [] h18
          refine fx_iload d_LI_unpackByAnother_99 rfl ?_
          refine fx_bipush (v := 7) d_LI_unpackByAnother_101 rfl ?_
          refine fx_icmp_ne (t := 111) (n := 106) d_LI_unpackByAnother_103 hz12 (show zR 7 by decide) (fun z20 => ?_) (fun z20 => ?_)
          · replace H := H.1 z20
            refine fx_iconst d_LI_unpackByAnother_111 ?_
            refine fx_iload d_LI_unpackByAnother_112 rfl ?_
            refine fx_isub d_LI_unpackByAnother_114 ?_
            refine fx_istore (ls2 := [some (.ref 4), some (.ref p), some (.int (zI x2)), some (.int (zI x3)), some (.int (zI x4)), some (.int (zI (1 - x5))), some (.int (zI x6)), some (.int (zI r11)), some (.int (zI r17))]) d_LI_unpackByAnother_115 (by decide) rfl ?_
            refine fx_iload d_LI_unpackByAnother_117 rfl ?_
            refine fx_iload d_LI_unpackByAnother_119 rfl ?_
            obtain ⟨hz21, H⟩ := H
            refine fx_icmp_le (t := 133) (n := 124) d_LI_unpackByAnother_121 hz21 hz6 (fun z22 => ?_) (fun z22 => ?_)
            · replace H := H.1 z22
              refine fx_iconst d_LI_unpackByAnother_133 ?_
              exact fx_end (some (.int (zI 0))) ⟨⟨_, rfl, rfl⟩, d_LI_unpackByAnother_134⟩ (Nat.le_refl _) (Nat.le_refl _) rfl H
            · replace H := H.2 z22
              refine fx_iload d_LI_unpackByAnother_124 rfl ?_
              refine fx_aload_n (i := 1) d_LI_unpackByAnother_126 rfl rfl ?_
              refine fx_getI d_LI_unpackByAnother_127 lk_LI_53 hp18 rfl ?_
              obtain ⟨hz23, H⟩ := H
              refine fx_icmp_le (t := 135) (n := 133) d_LI_unpackByAnother_130 hz21 hz23 (fun z24 => ?_) (fun z24 => ?_)
              · replace H := H.1 z24
                refine fx_iload d_LI_unpackByAnother_135 rfl ?_
                refine fx_istore (ls2 := [some (.ref 4), some (.ref p), some (.int (zI x2)), some (.int (zI x3)), some (.int (zI r17)), some (.int (zI (1 - x5))), some (.int (zI x6)), some (.int (zI r11)), some (.int (zI r17))]) d_LI_unpackByAnother_137 (by decide) rfl ?_
                refine fx_iinc (v := x6 + 1) (ls2 := [some (.ref 4), some (.ref p), some (.int (zI x2)), some (.int (zI x3)), some (.int (zI r17)), some (.int (zI (1 - x5))), some (.int (zI (x6 + 1))), some (.int (zI r11)), some (.int (zI r17))]) d_LI_unpackByAnother_139 rfl rfl (by decide) rfl ?_
                refine fx_goto (n := 9) d_LI_unpackByAnother_142 ?_
                exact fx_fewer [some (.ref 4), some (.ref p), some (.int (zI x2)), some (.int (zI x3)), some (.int (zI r17)), some (.int (zI (1 - x5))), some (.int (zI (x6 + 1))), none, none] ⟨rfl, rfl, rfl, rfl, rfl, rfl, rfl, trivial⟩ H
              · replace H := H.2 z24
                refine fx_iconst d_LI_unpackByAnother_133 ?_
                exact fx_end (some (.int (zI 0))) ⟨⟨_, rfl, rfl⟩, d_LI_unpackByAnother_134⟩ (Nat.le_refl _) (Nat.le_refl _) rfl H
          · replace H := H.2 z20
            refine fx_iload d_LI_unpackByAnother_106 rfl ?_
            refine fx_goto (n := 115) d_LI_unpackByAnother_108 ?_
            refine fx_istore (ls2 := [some (.ref 4), some (.ref p), some (.int (zI x2)), some (.int (zI x3)), some (.int (zI x4)), some (.int (zI x5)), some (.int (zI x6)), some (.int (zI r11)), some (.int (zI r17))]) d_LI_unpackByAnother_115 (by decide) rfl ?_
            refine fx_iload d_LI_unpackByAnother_117 rfl ?_
            refine fx_iload d_LI_unpackByAnother_119 rfl ?_
            obtain ⟨hz25, H⟩ := H
            refine fx_icmp_le (t := 133) (n := 124) d_LI_unpackByAnother_121 hz25 hz6 (fun z26 => ?_) (fun z26 => ?_)
            · replace H := H.1 z26
              refine fx_iconst d_LI_unpackByAnother_133 ?_
              exact fx_end (some (.int (zI 0))) ⟨⟨_, rfl, rfl⟩, d_LI_unpackByAnother_134⟩ (Nat.le_refl _) (Nat.le_refl _) rfl H
            · replace H := H.2 z26
              refine fx_iload d_LI_unpackByAnother_124 rfl ?_
              refine fx_aload_n (i := 1) d_LI_unpackByAnother_126 rfl rfl ?_
              refine fx_getI d_LI_unpackByAnother_127 lk_LI_53 hp18 rfl ?_
              obtain ⟨hz27, H⟩ := H
              refine fx_icmp_le (t := 135) (n := 133) d_LI_unpackByAnother_130 hz25 hz27 (fun z28 => ?_) (fun z28 => ?_)
              · replace H := H.1 z28
                refine fx_iload d_LI_unpackByAnother_135 rfl ?_
                refine fx_istore (ls2 := [some (.ref 4), some (.ref p), some (.int (zI x2)), some (.int (zI x3)), some (.int (zI r17)), some (.int (zI x5)), some (.int (zI x6)), some (.int (zI r11)), some (.int (zI r17))]) d_LI_unpackByAnother_137 (by decide) rfl ?_
                refine fx_iinc (v := x6 + 1) (ls2 := [some (.ref 4), some (.ref p), some (.int (zI x2)), some (.int (zI x3)), some (.int (zI r17)), some (.int (zI x5)), some (.int (zI (x6 + 1))), some (.int (zI r11)), some (.int (zI r17))]) d_LI_unpackByAnother_139 rfl rfl (by decide) rfl ?_
                refine fx_goto (n := 9) d_LI_unpackByAnother_142 ?_
                exact fx_fewer [some (.ref 4), some (.ref p), some (.int (zI x2)), some (.int (zI x3)), some (.int (zI r17)), some (.int (zI x5)), some (.int (zI (x6 + 1))), none, none] ⟨rfl, rfl, rfl, rfl, rfl, rfl, rfl, trivial⟩ H
              · replace H := H.2 z28
                refine fx_iconst d_LI_unpackByAnother_133 ?_
                exact fx_end (some (.int (zI 0))) ⟨⟨_, rfl, rfl⟩, d_LI_unpackByAnother_134⟩ (Nat.le_refl _) (Nat.le_refl _) rfl H
        · replace H := H.2 z14
          refine fx_aload_n (i := 0) d_LI_unpackByAnother_54 rfl rfl ?_
          refine fx_aload_n (i := 1) d_LI_unpackByAnother_55 rfl rfl ?_
          refine fx_iload_n (i := 2) d_LI_unpackByAnother_56 rfl rfl ?_
          refine fx_iload d_LI_unpackByAnother_57 rfl ?_
          refine fx_iconst d_LI_unpackByAnother_59 ?_
          refine fx_max d_LI_unpackByAnother_60 mm_LI_50 mw_max_s mw_i mw_max_c ⟨by decide, by decide⟩ (Nat.le_of_ble_eq_true rfl) ⟨Nat.le_refl _, Nat.le_refl _⟩ hz6 (show zR 0 by decide) ?_
          refine fx_iload d_LI_unpackByAnother_63 rfl ?_
          refine fx_callV (M' := M_LI_unpackTwoRuns) (B' := (0, 0)) (vs := [.ref p, .int (zI x2), .int (zI (if x4 < 0 then 0 else x4)), .int (zI x5)]) (rest := []) (c1 := 0) (s1 := 0) (n := 68) d_LI_unpackByAnother_65 ca_LI_unpackByAnother_87 (at_4 (h := _) hS9) rfl rfl rfl ⟨by decide, by decide⟩ (Nat.le_of_ble_eq_true rfl) (Or.inl rfl) (fx_Mt.mono H fun v h29 hv => ?_)
          obtain ⟨r31, rfl, e30, H⟩ := hv
          have hS29 := e30.trans hS9
          have hp29 : h29.1[p]? = some (hp_a, .inl (10, [some (p + 1), none, none, none])) := by rw [e30]; exact hp9
          have hx29 : h29.1[(p + 1)]? = some (hx_a, .inr (0, 960)) := by rw [e30]; exact hx9
          show fx_V l M_LI_unpackByAnother (0, 0) Q 0 0 68 [some (.ref 4), some (.ref p), some (.int (zI x2)), some (.int (zI x3)), some (.int (zI x4)), some (.int (zI x5)), some (.int (zI x6)), some (.int (zI r11)), none] [.int (zI r31)] h29
          refine fx_istore (ls2 := [some (.ref 4), some (.ref p), some (.int (zI x2)), some (.int (zI x3)), some (.int (zI x4)), some (.int (zI x5)), some (.int (zI x6)), some (.int (zI r11)), some (.int (zI r31))]) d_LI_unpackByAnother_68 (by decide) rfl ?_
          refine fx_goto (n := 117) d_LI_unpackByAnother_70 ?_
          refine fx_iload d_LI_unpackByAnother_117 rfl ?_
          refine fx_iload d_LI_unpackByAnother_119 rfl ?_
          obtain ⟨hz32, H⟩ := H
          refine fx_icmp_le (t := 133) (n := 124) d_LI_unpackByAnother_121 hz32 hz6 (fun z33 => ?_) (fun z33 => ?_)
          · replace H := H.1 z33
            refine fx_iconst d_LI_unpackByAnother_133 ?_
            exact fx_end (some (.int (zI 0))) ⟨⟨_, rfl, rfl⟩, d_LI_unpackByAnother_134⟩ (Nat.le_refl _) (Nat.le_refl _) rfl H
          · replace H := H.2 z33
            refine fx_iload d_LI_unpackByAnother_124 rfl ?_
            refine fx_aload_n (i := 1) d_LI_unpackByAnother_126 rfl rfl ?_
            refine fx_getI d_LI_unpackByAnother_127 lk_LI_53 hp29 rfl ?_
            obtain ⟨hz34, H⟩ := H
            refine fx_icmp_le (t := 135) (n := 133) d_LI_unpackByAnother_130 hz32 hz34 (fun z35 => ?_) (fun z35 => ?_)
            · replace H := H.1 z35
              refine fx_iload d_LI_unpackByAnother_135 rfl ?_
              refine fx_istore (ls2 := [some (.ref 4), some (.ref p), some (.int (zI x2)), some (.int (zI x3)), some (.int (zI r31)), some (.int (zI x5)), some (.int (zI x6)), some (.int (zI r11)), some (.int (zI r31))]) d_LI_unpackByAnother_137 (by decide) rfl ?_
              refine fx_iinc (v := x6 + 1) (ls2 := [some (.ref 4), some (.ref p), some (.int (zI x2)), some (.int (zI x3)), some (.int (zI r31)), some (.int (zI x5)), some (.int (zI (x6 + 1))), some (.int (zI r11)), some (.int (zI r31))]) d_LI_unpackByAnother_139 rfl rfl (by decide) rfl ?_
              refine fx_goto (n := 9) d_LI_unpackByAnother_142 ?_
              exact fx_fewer [some (.ref 4), some (.ref p), some (.int (zI x2)), some (.int (zI x3)), some (.int (zI r31)), some (.int (zI x5)), some (.int (zI (x6 + 1))), none, none] ⟨rfl, rfl, rfl, rfl, rfl, rfl, rfl, trivial⟩ H
            · replace H := H.2 z35
              refine fx_iconst d_LI_unpackByAnother_133 ?_
              exact fx_end (some (.int (zI 0))) ⟨⟨_, rfl, rfl⟩, d_LI_unpackByAnother_134⟩ (Nat.le_refl _) (Nat.le_refl _) rfl H
      · replace H := H.2 z13
        refine fx_iconst d_LI_unpackByAnother_45 ?_
        exact fx_end (some (.int (zI 0))) ⟨⟨_, rfl, rfl⟩, d_LI_unpackByAnother_46⟩ (Nat.le_refl _) (Nat.le_refl _) rfl H

set_option maxRecDepth 100000 in
set_option maxHeartbeats 4000000 in
theorem e_LI_unpackTwoRuns {l : Launch} {Q : Option Value → fx_H → Prop} {h : fx_H} {p : Nat} {y : Int} {x : Int} {c : Int} {hp_a : Nat} {hx_a : Nat} {a : Nat → Nat} {pp dd : Nat} (hS : h.1 = fx_S0 a pp dd) (hp : h.1[p]? = some (hp_a, .inl (10, [some (p + 1), none, none, none]))) (hx : h.1[(p + 1)]? = some (hx_a, .inr (0, 960)))
    (H : fx_Mt l M_LI_runsOf (0, 0) [.ref 4, .int (zI c)] h (fun v h1 => ∃ q3 : Nat, v = some (.ref q3) ∧ (q3 = 5 ∨ q3 = 7) ∧ h1.1 = h.1 ∧ fx_Mt l M_CT_next (0, 0) [.ref q3, .ref 3] h1 (fun v h4 => ∃ r6 : Int, v = some (.int (zI r6)) ∧ h4.1 = h1.1 ∧ zR r6 ∧ ((0 ≤ r6 → fx_Mt l M_LI_runsOf (0, 0) [.ref 4, .int (zI (1 - c))] h4 (fun v h9 => ∃ q11 : Nat, v = some (.ref q11) ∧ (q11 = 5 ∨ q11 = 7) ∧ h9.1 = h4.1 ∧ fx_Mt l M_CT_next (0, 0) [.ref q11, .ref 3] h9 (fun v h12 => ∃ r14 : Int, v = some (.int (zI r14)) ∧ h12.1 = h9.1 ∧ zR r14 ∧ ((r14 < 0 → Q (some (.int (zI (-1)))) h12) ∧ (¬ (r14 < 0) → zR (r6 + r14) ∧ ((¬ (r6 + r14) = 0 → fx_Mt l M_LI_paintRun (0, 0) [.ref 4, .ref p, .int (zI y), .int (zI x), .int (zI (x + r6)), .int (zI c)] h12 (fun v h19 => v = none ∧ h19.1 = h12.1 ∧ fx_Mt l M_LI_paintRun (0, 0) [.ref 4, .ref p, .int (zI y), .int (zI (x + r6)), .int (zI ((x + r6) + r14)), .int (zI (1 - c))] h19 (fun v h21 => v = none ∧ h21.1 = h19.1 ∧ Q (some (.int (zI ((x + r6) + r14)))) h21))) ∧ ((r6 + r14) = 0 → Q (some (.int (zI (-1)))) h12))))))) ∧ (¬ (0 ≤ r6) → Q (some (.int (zI (-1)))) h4))))) :
    fx_Mt l M_LI_unpackTwoRuns (0, 0) [.ref 4, .ref p, .int (zI y), .int (zI x), .int (zI c)] h Q := by
  refine fx_entry (ls := [some (.ref 4), some (.ref p), some (.int (zI y)), some (.int (zI x)), some (.int (zI c)), none, none]) (by decide) (Nat.le_of_ble_eq_true rfl) rfl ?_
  refine fx_aload_n (i := 0) d_LI_unpackTwoRuns_0 rfl rfl ?_
  refine fx_iload d_LI_unpackTwoRuns_1 rfl ?_
  refine fx_callV (M' := M_LI_runsOf) (B' := (0, 0)) (vs := [.int (zI c)]) (rest := []) (c1 := 0) (s1 := 0) (n := 6) d_LI_unpackTwoRuns_3 ca_LI_unpackTwoRuns_72 (at_4 (h := _) hS) rfl rfl rfl ⟨by decide, by decide⟩ (Nat.le_of_ble_eq_true rfl) (Or.inl rfl) (fx_Mt.mono H fun v h1 hv => ?_)
  obtain ⟨q3, rfl, hcq3, e2, H⟩ := hv
  have hS1 := e2.trans hS
  have hp1 : h1.1[p]? = some (hp_a, .inl (10, [some (p + 1), none, none, none])) := by rw [e2]; exact hp
  have hx1 : h1.1[(p + 1)]? = some (hx_a, .inr (0, 960)) := by rw [e2]; exact hx
  rcases hcq3 with rfl | rfl
  · show fx_V l M_LI_unpackTwoRuns (0, 0) Q 0 0 6 [some (.ref 4), some (.ref p), some (.int (zI y)), some (.int (zI x)), some (.int (zI c)), none, none] [.ref 5] h1
    refine fx_aload_n (i := 0) d_LI_unpackTwoRuns_6 rfl rfl ?_
    refine fx_getR (q := 3) d_LI_unpackTwoRuns_7 lk_LI_15 (at_4 (h := _) hS1) rfl rfl ?_
    refine fx_callV (M' := M_CT_next) (B' := (0, 0)) (vs := [.ref 3]) (rest := []) (c1 := 0) (s1 := 0) (n := 13) d_LI_unpackTwoRuns_10 ca_LI_unpackTwoRuns_76 (at_5 (h := _) hS1) rfl rfl rfl ⟨by decide, by decide⟩ (Nat.le_of_ble_eq_true rfl) (Or.inl rfl) (fx_Mt.mono H fun v h4 hv => ?_)
    obtain ⟨r6, rfl, e5, H⟩ := hv
    have hS4 := e5.trans hS1
    have hp4 : h4.1[p]? = some (hp_a, .inl (10, [some (p + 1), none, none, none])) := by rw [e5]; exact hp1
    have hx4 : h4.1[(p + 1)]? = some (hx_a, .inr (0, 960)) := by rw [e5]; exact hx1
    show fx_V l M_LI_unpackTwoRuns (0, 0) Q 0 0 13 [some (.ref 4), some (.ref p), some (.int (zI y)), some (.int (zI x)), some (.int (zI c)), none, none] [.int (zI r6)] h4
    refine fx_istore (ls2 := [some (.ref 4), some (.ref p), some (.int (zI y)), some (.int (zI x)), some (.int (zI c)), some (.int (zI r6)), none]) d_LI_unpackTwoRuns_13 (by decide) rfl ?_
    refine fx_iload d_LI_unpackTwoRuns_15 rfl ?_
    obtain ⟨hz7, H⟩ := H
    refine fx_if_ge (t := 24) (n := 20) d_LI_unpackTwoRuns_17 hz7 (fun z8 => ?_) (fun z8 => ?_)
    · replace H := H.1 z8
      refine fx_aload_n (i := 0) d_LI_unpackTwoRuns_24 rfl rfl ?_
      refine fx_iconst d_LI_unpackTwoRuns_25 ?_
      refine fx_iload d_LI_unpackTwoRuns_26 rfl ?_
      refine fx_isub d_LI_unpackTwoRuns_28 ?_
      refine fx_callV (M' := M_LI_runsOf) (B' := (0, 0)) (vs := [.int (zI (1 - c))]) (rest := []) (c1 := 0) (s1 := 0) (n := 32) d_LI_unpackTwoRuns_29 ca_LI_unpackTwoRuns_72 (at_4 (h := _) hS4) rfl rfl rfl ⟨by decide, by decide⟩ (Nat.le_of_ble_eq_true rfl) (Or.inl rfl) (fx_Mt.mono H fun v h9 hv => ?_)
      obtain ⟨q11, rfl, hcq11, e10, H⟩ := hv
      have hS9 := e10.trans hS4
      have hp9 : h9.1[p]? = some (hp_a, .inl (10, [some (p + 1), none, none, none])) := by rw [e10]; exact hp4
      have hx9 : h9.1[(p + 1)]? = some (hx_a, .inr (0, 960)) := by rw [e10]; exact hx4
      rcases hcq11 with rfl | rfl
      · show fx_V l M_LI_unpackTwoRuns (0, 0) Q 0 0 32 [some (.ref 4), some (.ref p), some (.int (zI y)), some (.int (zI x)), some (.int (zI c)), some (.int (zI r6)), none] [.ref 5] h9
        refine fx_aload_n (i := 0) d_LI_unpackTwoRuns_32 rfl rfl ?_
        refine fx_getR (q := 3) d_LI_unpackTwoRuns_33 lk_LI_15 (at_4 (h := _) hS9) rfl rfl ?_
        refine fx_callV (M' := M_CT_next) (B' := (0, 0)) (vs := [.ref 3]) (rest := []) (c1 := 0) (s1 := 0) (n := 39) d_LI_unpackTwoRuns_36 ca_LI_unpackTwoRuns_76 (at_5 (h := _) hS9) rfl rfl rfl ⟨by decide, by decide⟩ (Nat.le_of_ble_eq_true rfl) (Or.inl rfl) (fx_Mt.mono H fun v h12 hv => ?_)
        obtain ⟨r14, rfl, e13, H⟩ := hv
        have hS12 := e13.trans hS9
        have hp12 : h12.1[p]? = some (hp_a, .inl (10, [some (p + 1), none, none, none])) := by rw [e13]; exact hp9
        have hx12 : h12.1[(p + 1)]? = some (hx_a, .inr (0, 960)) := by rw [e13]; exact hx9
        show fx_V l M_LI_unpackTwoRuns (0, 0) Q 0 0 39 [some (.ref 4), some (.ref p), some (.int (zI y)), some (.int (zI x)), some (.int (zI c)), some (.int (zI r6)), none] [.int (zI r14)] h12
        refine fx_istore (ls2 := [some (.ref 4), some (.ref p), some (.int (zI y)), some (.int (zI x)), some (.int (zI c)), some (.int (zI r6)), some (.int (zI r14))]) d_LI_unpackTwoRuns_39 (by decide) rfl ?_
        refine fx_iload d_LI_unpackTwoRuns_41 rfl ?_
        obtain ⟨hz15, H⟩ := H
        refine fx_if_lt (t := 54) (n := 46) d_LI_unpackTwoRuns_43 hz15 (fun z16 => ?_) (fun z16 => ?_)
        · replace H := H.1 z16
          refine fx_iconst d_LI_unpackTwoRuns_54 ?_
          exact fx_end (some (.int (zI (-1)))) ⟨⟨_, rfl, rfl⟩, d_LI_unpackTwoRuns_55⟩ (Nat.le_refl _) (Nat.le_refl _) rfl H
        · replace H := H.2 z16
          refine fx_iload d_LI_unpackTwoRuns_46 rfl ?_
          refine fx_iload d_LI_unpackTwoRuns_48 rfl ?_
          refine fx_iadd d_LI_unpackTwoRuns_50 ?_
          obtain ⟨hz17, H⟩ := H
          refine fx_if_ne (t := 56) (n := 54) d_LI_unpackTwoRuns_51 hz17 (fun z18 => ?_) (fun z18 => ?_)
          · replace H := H.1 z18
            refine fx_aload_n (i := 0) d_LI_unpackTwoRuns_56 rfl rfl ?_
            refine fx_aload_n (i := 1) d_LI_unpackTwoRuns_57 rfl rfl ?_
            refine fx_iload_n (i := 2) d_LI_unpackTwoRuns_58 rfl rfl ?_
            refine fx_iload_n (i := 3) d_LI_unpackTwoRuns_59 rfl rfl ?_
            refine fx_iload_n (i := 3) d_LI_unpackTwoRuns_60 rfl rfl ?_
            refine fx_iload d_LI_unpackTwoRuns_61 rfl ?_
            refine fx_iadd d_LI_unpackTwoRuns_63 ?_
            refine fx_iload d_LI_unpackTwoRuns_64 rfl ?_
            refine fx_callV (M' := M_LI_paintRun) (B' := (0, 0)) (vs := [.ref p, .int (zI y), .int (zI x), .int (zI (x + r6)), .int (zI c)]) (rest := []) (c1 := 0) (s1 := 0) (n := 69) d_LI_unpackTwoRuns_66 ca_LI_unpackTwoRuns_80 (at_4 (h := _) hS12) rfl rfl rfl ⟨by decide, by decide⟩ (Nat.le_of_ble_eq_true rfl) (Or.inl rfl) (fx_Mt.mono H fun v h19 hv => ?_)
            obtain ⟨rfl, e20, H⟩ := hv
            have hS19 := e20.trans hS12
            have hp19 : h19.1[p]? = some (hp_a, .inl (10, [some (p + 1), none, none, none])) := by rw [e20]; exact hp12
            have hx19 : h19.1[(p + 1)]? = some (hx_a, .inr (0, 960)) := by rw [e20]; exact hx12
            show fx_V l M_LI_unpackTwoRuns (0, 0) Q 0 0 69 [some (.ref 4), some (.ref p), some (.int (zI y)), some (.int (zI x)), some (.int (zI c)), some (.int (zI r6)), some (.int (zI r14))] [] h19
            refine fx_aload_n (i := 0) d_LI_unpackTwoRuns_69 rfl rfl ?_
            refine fx_aload_n (i := 1) d_LI_unpackTwoRuns_70 rfl rfl ?_
            refine fx_iload_n (i := 2) d_LI_unpackTwoRuns_71 rfl rfl ?_
            refine fx_iload_n (i := 3) d_LI_unpackTwoRuns_72 rfl rfl ?_
            refine fx_iload d_LI_unpackTwoRuns_73 rfl ?_
            refine fx_iadd d_LI_unpackTwoRuns_75 ?_
            refine fx_iload_n (i := 3) d_LI_unpackTwoRuns_76 rfl rfl ?_
            refine fx_iload d_LI_unpackTwoRuns_77 rfl ?_
            refine fx_iadd d_LI_unpackTwoRuns_79 ?_
            refine fx_iload d_LI_unpackTwoRuns_80 rfl ?_
            refine fx_iadd d_LI_unpackTwoRuns_82 ?_
            refine fx_iconst d_LI_unpackTwoRuns_83 ?_
            refine fx_iload d_LI_unpackTwoRuns_84 rfl ?_
            refine fx_isub d_LI_unpackTwoRuns_86 ?_
            refine fx_callV (M' := M_LI_paintRun) (B' := (0, 0)) (vs := [.ref p, .int (zI y), .int (zI (x + r6)), .int (zI ((x + r6) + r14)), .int (zI (1 - c))]) (rest := []) (c1 := 0) (s1 := 0) (n := 90) d_LI_unpackTwoRuns_87 ca_LI_unpackTwoRuns_80 (at_4 (h := _) hS19) rfl rfl rfl ⟨by decide, by decide⟩ (Nat.le_of_ble_eq_true rfl) (Or.inl rfl) (fx_Mt.mono H fun v h21 hv => ?_)
            obtain ⟨rfl, e22, H⟩ := hv
            have hS21 := e22.trans hS19
            have hp21 : h21.1[p]? = some (hp_a, .inl (10, [some (p + 1), none, none, none])) := by rw [e22]; exact hp19
            have hx21 : h21.1[(p + 1)]? = some (hx_a, .inr (0, 960)) := by rw [e22]; exact hx19
            show fx_V l M_LI_unpackTwoRuns (0, 0) Q 0 0 90 [some (.ref 4), some (.ref p), some (.int (zI y)), some (.int (zI x)), some (.int (zI c)), some (.int (zI r6)), some (.int (zI r14))] [] h21
            refine fx_iload_n (i := 3) d_LI_unpackTwoRuns_90 rfl rfl ?_
            refine fx_iload d_LI_unpackTwoRuns_91 rfl ?_
            refine fx_iadd d_LI_unpackTwoRuns_93 ?_
            refine fx_iload d_LI_unpackTwoRuns_94 rfl ?_
            refine fx_iadd d_LI_unpackTwoRuns_96 ?_
            exact fx_end (some (.int (zI ((x + r6) + r14)))) ⟨⟨_, rfl, rfl⟩, d_LI_unpackTwoRuns_97⟩ (Nat.le_refl _) (Nat.le_refl _) rfl H
          · replace H := H.2 z18
            refine fx_iconst d_LI_unpackTwoRuns_54 ?_
            exact fx_end (some (.int (zI (-1)))) ⟨⟨_, rfl, rfl⟩, d_LI_unpackTwoRuns_55⟩ (Nat.le_refl _) (Nat.le_refl _) rfl H
      · show fx_V l M_LI_unpackTwoRuns (0, 0) Q 0 0 32 [some (.ref 4), some (.ref p), some (.int (zI y)), some (.int (zI x)), some (.int (zI c)), some (.int (zI r6)), none] [.ref 7] h9
        refine fx_aload_n (i := 0) d_LI_unpackTwoRuns_32 rfl rfl ?_
        refine fx_getR (q := 3) d_LI_unpackTwoRuns_33 lk_LI_15 (at_4 (h := _) hS9) rfl rfl ?_
        refine fx_callV (M' := M_CT_next) (B' := (0, 0)) (vs := [.ref 3]) (rest := []) (c1 := 0) (s1 := 0) (n := 39) d_LI_unpackTwoRuns_36 ca_LI_unpackTwoRuns_76 (at_7 (h := _) hS9) rfl rfl rfl ⟨by decide, by decide⟩ (Nat.le_of_ble_eq_true rfl) (Or.inl rfl) (fx_Mt.mono H fun v h12 hv => ?_)
        obtain ⟨r14, rfl, e13, H⟩ := hv
        have hS12 := e13.trans hS9
        have hp12 : h12.1[p]? = some (hp_a, .inl (10, [some (p + 1), none, none, none])) := by rw [e13]; exact hp9
        have hx12 : h12.1[(p + 1)]? = some (hx_a, .inr (0, 960)) := by rw [e13]; exact hx9
        show fx_V l M_LI_unpackTwoRuns (0, 0) Q 0 0 39 [some (.ref 4), some (.ref p), some (.int (zI y)), some (.int (zI x)), some (.int (zI c)), some (.int (zI r6)), none] [.int (zI r14)] h12
        refine fx_istore (ls2 := [some (.ref 4), some (.ref p), some (.int (zI y)), some (.int (zI x)), some (.int (zI c)), some (.int (zI r6)), some (.int (zI r14))]) d_LI_unpackTwoRuns_39 (by decide) rfl ?_
        refine fx_iload d_LI_unpackTwoRuns_41 rfl ?_
        obtain ⟨hz15, H⟩ := H
        refine fx_if_lt (t := 54) (n := 46) d_LI_unpackTwoRuns_43 hz15 (fun z16 => ?_) (fun z16 => ?_)
        · replace H := H.1 z16
          refine fx_iconst d_LI_unpackTwoRuns_54 ?_
          exact fx_end (some (.int (zI (-1)))) ⟨⟨_, rfl, rfl⟩, d_LI_unpackTwoRuns_55⟩ (Nat.le_refl _) (Nat.le_refl _) rfl H
        · replace H := H.2 z16
          refine fx_iload d_LI_unpackTwoRuns_46 rfl ?_
          refine fx_iload d_LI_unpackTwoRuns_48 rfl ?_
          refine fx_iadd d_LI_unpackTwoRuns_50 ?_
          obtain ⟨hz17, H⟩ := H
          refine fx_if_ne (t := 56) (n := 54) d_LI_unpackTwoRuns_51 hz17 (fun z18 => ?_) (fun z18 => ?_)
          · replace H := H.1 z18
            refine fx_aload_n (i := 0) d_LI_unpackTwoRuns_56 rfl rfl ?_
            refine fx_aload_n (i := 1) d_LI_unpackTwoRuns_57 rfl rfl ?_
            refine fx_iload_n (i := 2) d_LI_unpackTwoRuns_58 rfl rfl ?_
            refine fx_iload_n (i := 3) d_LI_unpackTwoRuns_59 rfl rfl ?_
            refine fx_iload_n (i := 3) d_LI_unpackTwoRuns_60 rfl rfl ?_
            refine fx_iload d_LI_unpackTwoRuns_61 rfl ?_
            refine fx_iadd d_LI_unpackTwoRuns_63 ?_
            refine fx_iload d_LI_unpackTwoRuns_64 rfl ?_
            refine fx_callV (M' := M_LI_paintRun) (B' := (0, 0)) (vs := [.ref p, .int (zI y), .int (zI x), .int (zI (x + r6)), .int (zI c)]) (rest := []) (c1 := 0) (s1 := 0) (n := 69) d_LI_unpackTwoRuns_66 ca_LI_unpackTwoRuns_80 (at_4 (h := _) hS12) rfl rfl rfl ⟨by decide, by decide⟩ (Nat.le_of_ble_eq_true rfl) (Or.inl rfl) (fx_Mt.mono H fun v h19 hv => ?_)
            obtain ⟨rfl, e20, H⟩ := hv
            have hS19 := e20.trans hS12
            have hp19 : h19.1[p]? = some (hp_a, .inl (10, [some (p + 1), none, none, none])) := by rw [e20]; exact hp12
            have hx19 : h19.1[(p + 1)]? = some (hx_a, .inr (0, 960)) := by rw [e20]; exact hx12
            show fx_V l M_LI_unpackTwoRuns (0, 0) Q 0 0 69 [some (.ref 4), some (.ref p), some (.int (zI y)), some (.int (zI x)), some (.int (zI c)), some (.int (zI r6)), some (.int (zI r14))] [] h19
            refine fx_aload_n (i := 0) d_LI_unpackTwoRuns_69 rfl rfl ?_
            refine fx_aload_n (i := 1) d_LI_unpackTwoRuns_70 rfl rfl ?_
            refine fx_iload_n (i := 2) d_LI_unpackTwoRuns_71 rfl rfl ?_
            refine fx_iload_n (i := 3) d_LI_unpackTwoRuns_72 rfl rfl ?_
            refine fx_iload d_LI_unpackTwoRuns_73 rfl ?_
            refine fx_iadd d_LI_unpackTwoRuns_75 ?_
            refine fx_iload_n (i := 3) d_LI_unpackTwoRuns_76 rfl rfl ?_
            refine fx_iload d_LI_unpackTwoRuns_77 rfl ?_
            refine fx_iadd d_LI_unpackTwoRuns_79 ?_
            refine fx_iload d_LI_unpackTwoRuns_80 rfl ?_
            refine fx_iadd d_LI_unpackTwoRuns_82 ?_
            refine fx_iconst d_LI_unpackTwoRuns_83 ?_
            refine fx_iload d_LI_unpackTwoRuns_84 rfl ?_
            refine fx_isub d_LI_unpackTwoRuns_86 ?_
            refine fx_callV (M' := M_LI_paintRun) (B' := (0, 0)) (vs := [.ref p, .int (zI y), .int (zI (x + r6)), .int (zI ((x + r6) + r14)), .int (zI (1 - c))]) (rest := []) (c1 := 0) (s1 := 0) (n := 90) d_LI_unpackTwoRuns_87 ca_LI_unpackTwoRuns_80 (at_4 (h := _) hS19) rfl rfl rfl ⟨by decide, by decide⟩ (Nat.le_of_ble_eq_true rfl) (Or.inl rfl) (fx_Mt.mono H fun v h21 hv => ?_)
            obtain ⟨rfl, e22, H⟩ := hv
            have hS21 := e22.trans hS19
            have hp21 : h21.1[p]? = some (hp_a, .inl (10, [some (p + 1), none, none, none])) := by rw [e22]; exact hp19
            have hx21 : h21.1[(p + 1)]? = some (hx_a, .inr (0, 960)) := by rw [e22]; exact hx19
            show fx_V l M_LI_unpackTwoRuns (0, 0) Q 0 0 90 [some (.ref 4), some (.ref p), some (.int (zI y)), some (.int (zI x)), some (.int (zI c)), some (.int (zI r6)), some (.int (zI r14))] [] h21
            refine fx_iload_n (i := 3) d_LI_unpackTwoRuns_90 rfl rfl ?_
            refine fx_iload d_LI_unpackTwoRuns_91 rfl ?_
            refine fx_iadd d_LI_unpackTwoRuns_93 ?_
            refine fx_iload d_LI_unpackTwoRuns_94 rfl ?_
            refine fx_iadd d_LI_unpackTwoRuns_96 ?_
            exact fx_end (some (.int (zI ((x + r6) + r14)))) ⟨⟨_, rfl, rfl⟩, d_LI_unpackTwoRuns_97⟩ (Nat.le_refl _) (Nat.le_refl _) rfl H
          · replace H := H.2 z18
            refine fx_iconst d_LI_unpackTwoRuns_54 ?_
            exact fx_end (some (.int (zI (-1)))) ⟨⟨_, rfl, rfl⟩, d_LI_unpackTwoRuns_55⟩ (Nat.le_refl _) (Nat.le_refl _) rfl H
    · replace H := H.2 z8
      refine fx_iconst d_LI_unpackTwoRuns_20 ?_
      refine fx_goto (n := 39) d_LI_unpackTwoRuns_21 ?_
      refine fx_istore (ls2 := [some (.ref 4), some (.ref p), some (.int (zI y)), some (.int (zI x)), some (.int (zI c)), some (.int (zI r6)), some (.int (zI (-1)))]) d_LI_unpackTwoRuns_39 (by decide) rfl ?_
      refine fx_iload d_LI_unpackTwoRuns_41 rfl ?_
      refine fx_if_lt (t := 54) (n := 46) d_LI_unpackTwoRuns_43 (show zR (-1) by decide) (fun z => ?_) (fun z => absurd (show ¬ ((-1 : Int) < (0 : Int)) from z) (by decide))
      refine fx_iconst d_LI_unpackTwoRuns_54 ?_
      exact fx_end (some (.int (zI (-1)))) ⟨⟨_, rfl, rfl⟩, d_LI_unpackTwoRuns_55⟩ (Nat.le_refl _) (Nat.le_refl _) rfl H
  · show fx_V l M_LI_unpackTwoRuns (0, 0) Q 0 0 6 [some (.ref 4), some (.ref p), some (.int (zI y)), some (.int (zI x)), some (.int (zI c)), none, none] [.ref 7] h1
    refine fx_aload_n (i := 0) d_LI_unpackTwoRuns_6 rfl rfl ?_
    refine fx_getR (q := 3) d_LI_unpackTwoRuns_7 lk_LI_15 (at_4 (h := _) hS1) rfl rfl ?_
    refine fx_callV (M' := M_CT_next) (B' := (0, 0)) (vs := [.ref 3]) (rest := []) (c1 := 0) (s1 := 0) (n := 13) d_LI_unpackTwoRuns_10 ca_LI_unpackTwoRuns_76 (at_7 (h := _) hS1) rfl rfl rfl ⟨by decide, by decide⟩ (Nat.le_of_ble_eq_true rfl) (Or.inl rfl) (fx_Mt.mono H fun v h4 hv => ?_)
    obtain ⟨r6, rfl, e5, H⟩ := hv
    have hS4 := e5.trans hS1
    have hp4 : h4.1[p]? = some (hp_a, .inl (10, [some (p + 1), none, none, none])) := by rw [e5]; exact hp1
    have hx4 : h4.1[(p + 1)]? = some (hx_a, .inr (0, 960)) := by rw [e5]; exact hx1
    show fx_V l M_LI_unpackTwoRuns (0, 0) Q 0 0 13 [some (.ref 4), some (.ref p), some (.int (zI y)), some (.int (zI x)), some (.int (zI c)), none, none] [.int (zI r6)] h4
    refine fx_istore (ls2 := [some (.ref 4), some (.ref p), some (.int (zI y)), some (.int (zI x)), some (.int (zI c)), some (.int (zI r6)), none]) d_LI_unpackTwoRuns_13 (by decide) rfl ?_
    refine fx_iload d_LI_unpackTwoRuns_15 rfl ?_
    obtain ⟨hz7, H⟩ := H
    refine fx_if_ge (t := 24) (n := 20) d_LI_unpackTwoRuns_17 hz7 (fun z8 => ?_) (fun z8 => ?_)
    · replace H := H.1 z8
      refine fx_aload_n (i := 0) d_LI_unpackTwoRuns_24 rfl rfl ?_
      refine fx_iconst d_LI_unpackTwoRuns_25 ?_
      refine fx_iload d_LI_unpackTwoRuns_26 rfl ?_
      refine fx_isub d_LI_unpackTwoRuns_28 ?_
      refine fx_callV (M' := M_LI_runsOf) (B' := (0, 0)) (vs := [.int (zI (1 - c))]) (rest := []) (c1 := 0) (s1 := 0) (n := 32) d_LI_unpackTwoRuns_29 ca_LI_unpackTwoRuns_72 (at_4 (h := _) hS4) rfl rfl rfl ⟨by decide, by decide⟩ (Nat.le_of_ble_eq_true rfl) (Or.inl rfl) (fx_Mt.mono H fun v h9 hv => ?_)
      obtain ⟨q11, rfl, hcq11, e10, H⟩ := hv
      have hS9 := e10.trans hS4
      have hp9 : h9.1[p]? = some (hp_a, .inl (10, [some (p + 1), none, none, none])) := by rw [e10]; exact hp4
      have hx9 : h9.1[(p + 1)]? = some (hx_a, .inr (0, 960)) := by rw [e10]; exact hx4
      rcases hcq11 with rfl | rfl
      · show fx_V l M_LI_unpackTwoRuns (0, 0) Q 0 0 32 [some (.ref 4), some (.ref p), some (.int (zI y)), some (.int (zI x)), some (.int (zI c)), some (.int (zI r6)), none] [.ref 5] h9
        refine fx_aload_n (i := 0) d_LI_unpackTwoRuns_32 rfl rfl ?_
        refine fx_getR (q := 3) d_LI_unpackTwoRuns_33 lk_LI_15 (at_4 (h := _) hS9) rfl rfl ?_
        refine fx_callV (M' := M_CT_next) (B' := (0, 0)) (vs := [.ref 3]) (rest := []) (c1 := 0) (s1 := 0) (n := 39) d_LI_unpackTwoRuns_36 ca_LI_unpackTwoRuns_76 (at_5 (h := _) hS9) rfl rfl rfl ⟨by decide, by decide⟩ (Nat.le_of_ble_eq_true rfl) (Or.inl rfl) (fx_Mt.mono H fun v h12 hv => ?_)
        obtain ⟨r14, rfl, e13, H⟩ := hv
        have hS12 := e13.trans hS9
        have hp12 : h12.1[p]? = some (hp_a, .inl (10, [some (p + 1), none, none, none])) := by rw [e13]; exact hp9
        have hx12 : h12.1[(p + 1)]? = some (hx_a, .inr (0, 960)) := by rw [e13]; exact hx9
        show fx_V l M_LI_unpackTwoRuns (0, 0) Q 0 0 39 [some (.ref 4), some (.ref p), some (.int (zI y)), some (.int (zI x)), some (.int (zI c)), some (.int (zI r6)), none] [.int (zI r14)] h12
        refine fx_istore (ls2 := [some (.ref 4), some (.ref p), some (.int (zI y)), some (.int (zI x)), some (.int (zI c)), some (.int (zI r6)), some (.int (zI r14))]) d_LI_unpackTwoRuns_39 (by decide) rfl ?_
        refine fx_iload d_LI_unpackTwoRuns_41 rfl ?_
        obtain ⟨hz15, H⟩ := H
        refine fx_if_lt (t := 54) (n := 46) d_LI_unpackTwoRuns_43 hz15 (fun z16 => ?_) (fun z16 => ?_)
        · replace H := H.1 z16
          refine fx_iconst d_LI_unpackTwoRuns_54 ?_
          exact fx_end (some (.int (zI (-1)))) ⟨⟨_, rfl, rfl⟩, d_LI_unpackTwoRuns_55⟩ (Nat.le_refl _) (Nat.le_refl _) rfl H
        · replace H := H.2 z16
          refine fx_iload d_LI_unpackTwoRuns_46 rfl ?_
          refine fx_iload d_LI_unpackTwoRuns_48 rfl ?_
          refine fx_iadd d_LI_unpackTwoRuns_50 ?_
          obtain ⟨hz17, H⟩ := H
          refine fx_if_ne (t := 56) (n := 54) d_LI_unpackTwoRuns_51 hz17 (fun z18 => ?_) (fun z18 => ?_)
          · replace H := H.1 z18
            refine fx_aload_n (i := 0) d_LI_unpackTwoRuns_56 rfl rfl ?_
            refine fx_aload_n (i := 1) d_LI_unpackTwoRuns_57 rfl rfl ?_
            refine fx_iload_n (i := 2) d_LI_unpackTwoRuns_58 rfl rfl ?_
            refine fx_iload_n (i := 3) d_LI_unpackTwoRuns_59 rfl rfl ?_
            refine fx_iload_n (i := 3) d_LI_unpackTwoRuns_60 rfl rfl ?_
            refine fx_iload d_LI_unpackTwoRuns_61 rfl ?_
            refine fx_iadd d_LI_unpackTwoRuns_63 ?_
            refine fx_iload d_LI_unpackTwoRuns_64 rfl ?_
            refine fx_callV (M' := M_LI_paintRun) (B' := (0, 0)) (vs := [.ref p, .int (zI y), .int (zI x), .int (zI (x + r6)), .int (zI c)]) (rest := []) (c1 := 0) (s1 := 0) (n := 69) d_LI_unpackTwoRuns_66 ca_LI_unpackTwoRuns_80 (at_4 (h := _) hS12) rfl rfl rfl ⟨by decide, by decide⟩ (Nat.le_of_ble_eq_true rfl) (Or.inl rfl) (fx_Mt.mono H fun v h19 hv => ?_)
            obtain ⟨rfl, e20, H⟩ := hv
            have hS19 := e20.trans hS12
            have hp19 : h19.1[p]? = some (hp_a, .inl (10, [some (p + 1), none, none, none])) := by rw [e20]; exact hp12
            have hx19 : h19.1[(p + 1)]? = some (hx_a, .inr (0, 960)) := by rw [e20]; exact hx12
            show fx_V l M_LI_unpackTwoRuns (0, 0) Q 0 0 69 [some (.ref 4), some (.ref p), some (.int (zI y)), some (.int (zI x)), some (.int (zI c)), some (.int (zI r6)), some (.int (zI r14))] [] h19
            refine fx_aload_n (i := 0) d_LI_unpackTwoRuns_69 rfl rfl ?_
            refine fx_aload_n (i := 1) d_LI_unpackTwoRuns_70 rfl rfl ?_
            refine fx_iload_n (i := 2) d_LI_unpackTwoRuns_71 rfl rfl ?_
            refine fx_iload_n (i := 3) d_LI_unpackTwoRuns_72 rfl rfl ?_
            refine fx_iload d_LI_unpackTwoRuns_73 rfl ?_
            refine fx_iadd d_LI_unpackTwoRuns_75 ?_
            refine fx_iload_n (i := 3) d_LI_unpackTwoRuns_76 rfl rfl ?_
            refine fx_iload d_LI_unpackTwoRuns_77 rfl ?_
            refine fx_iadd d_LI_unpackTwoRuns_79 ?_
            refine fx_iload d_LI_unpackTwoRuns_80 rfl ?_
            refine fx_iadd d_LI_unpackTwoRuns_82 ?_
            refine fx_iconst d_LI_unpackTwoRuns_83 ?_
            refine fx_iload d_LI_unpackTwoRuns_84 rfl ?_
            refine fx_isub d_LI_unpackTwoRuns_86 ?_
            refine fx_callV (M' := M_LI_paintRun) (B' := (0, 0)) (vs := [.ref p, .int (zI y), .int (zI (x + r6)), .int (zI ((x + r6) + r14)), .int (zI (1 - c))]) (rest := []) (c1 := 0) (s1 := 0) (n := 90) d_LI_unpackTwoRuns_87 ca_LI_unpackTwoRuns_80 (at_4 (h := _) hS19) rfl rfl rfl ⟨by decide, by decide⟩ (Nat.le_of_ble_eq_true rfl) (Or.inl rfl) (fx_Mt.mono H fun v h21 hv => ?_)
            obtain ⟨rfl, e22, H⟩ := hv
            have hS21 := e22.trans hS19
            have hp21 : h21.1[p]? = some (hp_a, .inl (10, [some (p + 1), none, none, none])) := by rw [e22]; exact hp19
            have hx21 : h21.1[(p + 1)]? = some (hx_a, .inr (0, 960)) := by rw [e22]; exact hx19
            show fx_V l M_LI_unpackTwoRuns (0, 0) Q 0 0 90 [some (.ref 4), some (.ref p), some (.int (zI y)), some (.int (zI x)), some (.int (zI c)), some (.int (zI r6)), some (.int (zI r14))] [] h21
            refine fx_iload_n (i := 3) d_LI_unpackTwoRuns_90 rfl rfl ?_
            refine fx_iload d_LI_unpackTwoRuns_91 rfl ?_
            refine fx_iadd d_LI_unpackTwoRuns_93 ?_
            refine fx_iload d_LI_unpackTwoRuns_94 rfl ?_
            refine fx_iadd d_LI_unpackTwoRuns_96 ?_
            exact fx_end (some (.int (zI ((x + r6) + r14)))) ⟨⟨_, rfl, rfl⟩, d_LI_unpackTwoRuns_97⟩ (Nat.le_refl _) (Nat.le_refl _) rfl H
          · replace H := H.2 z18
            refine fx_iconst d_LI_unpackTwoRuns_54 ?_
            exact fx_end (some (.int (zI (-1)))) ⟨⟨_, rfl, rfl⟩, d_LI_unpackTwoRuns_55⟩ (Nat.le_refl _) (Nat.le_refl _) rfl H
      · show fx_V l M_LI_unpackTwoRuns (0, 0) Q 0 0 32 [some (.ref 4), some (.ref p), some (.int (zI y)), some (.int (zI x)), some (.int (zI c)), some (.int (zI r6)), none] [.ref 7] h9
        refine fx_aload_n (i := 0) d_LI_unpackTwoRuns_32 rfl rfl ?_
        refine fx_getR (q := 3) d_LI_unpackTwoRuns_33 lk_LI_15 (at_4 (h := _) hS9) rfl rfl ?_
        refine fx_callV (M' := M_CT_next) (B' := (0, 0)) (vs := [.ref 3]) (rest := []) (c1 := 0) (s1 := 0) (n := 39) d_LI_unpackTwoRuns_36 ca_LI_unpackTwoRuns_76 (at_7 (h := _) hS9) rfl rfl rfl ⟨by decide, by decide⟩ (Nat.le_of_ble_eq_true rfl) (Or.inl rfl) (fx_Mt.mono H fun v h12 hv => ?_)
        obtain ⟨r14, rfl, e13, H⟩ := hv
        have hS12 := e13.trans hS9
        have hp12 : h12.1[p]? = some (hp_a, .inl (10, [some (p + 1), none, none, none])) := by rw [e13]; exact hp9
        have hx12 : h12.1[(p + 1)]? = some (hx_a, .inr (0, 960)) := by rw [e13]; exact hx9
        show fx_V l M_LI_unpackTwoRuns (0, 0) Q 0 0 39 [some (.ref 4), some (.ref p), some (.int (zI y)), some (.int (zI x)), some (.int (zI c)), some (.int (zI r6)), none] [.int (zI r14)] h12
        refine fx_istore (ls2 := [some (.ref 4), some (.ref p), some (.int (zI y)), some (.int (zI x)), some (.int (zI c)), some (.int (zI r6)), some (.int (zI r14))]) d_LI_unpackTwoRuns_39 (by decide) rfl ?_
        refine fx_iload d_LI_unpackTwoRuns_41 rfl ?_
        obtain ⟨hz15, H⟩ := H
        refine fx_if_lt (t := 54) (n := 46) d_LI_unpackTwoRuns_43 hz15 (fun z16 => ?_) (fun z16 => ?_)
        · replace H := H.1 z16
          refine fx_iconst d_LI_unpackTwoRuns_54 ?_
          exact fx_end (some (.int (zI (-1)))) ⟨⟨_, rfl, rfl⟩, d_LI_unpackTwoRuns_55⟩ (Nat.le_refl _) (Nat.le_refl _) rfl H
        · replace H := H.2 z16
          refine fx_iload d_LI_unpackTwoRuns_46 rfl ?_
          refine fx_iload d_LI_unpackTwoRuns_48 rfl ?_
          refine fx_iadd d_LI_unpackTwoRuns_50 ?_
          obtain ⟨hz17, H⟩ := H
          refine fx_if_ne (t := 56) (n := 54) d_LI_unpackTwoRuns_51 hz17 (fun z18 => ?_) (fun z18 => ?_)
          · replace H := H.1 z18
            refine fx_aload_n (i := 0) d_LI_unpackTwoRuns_56 rfl rfl ?_
            refine fx_aload_n (i := 1) d_LI_unpackTwoRuns_57 rfl rfl ?_
            refine fx_iload_n (i := 2) d_LI_unpackTwoRuns_58 rfl rfl ?_
            refine fx_iload_n (i := 3) d_LI_unpackTwoRuns_59 rfl rfl ?_
            refine fx_iload_n (i := 3) d_LI_unpackTwoRuns_60 rfl rfl ?_
            refine fx_iload d_LI_unpackTwoRuns_61 rfl ?_
            refine fx_iadd d_LI_unpackTwoRuns_63 ?_
            refine fx_iload d_LI_unpackTwoRuns_64 rfl ?_
            refine fx_callV (M' := M_LI_paintRun) (B' := (0, 0)) (vs := [.ref p, .int (zI y), .int (zI x), .int (zI (x + r6)), .int (zI c)]) (rest := []) (c1 := 0) (s1 := 0) (n := 69) d_LI_unpackTwoRuns_66 ca_LI_unpackTwoRuns_80 (at_4 (h := _) hS12) rfl rfl rfl ⟨by decide, by decide⟩ (Nat.le_of_ble_eq_true rfl) (Or.inl rfl) (fx_Mt.mono H fun v h19 hv => ?_)
            obtain ⟨rfl, e20, H⟩ := hv
            have hS19 := e20.trans hS12
            have hp19 : h19.1[p]? = some (hp_a, .inl (10, [some (p + 1), none, none, none])) := by rw [e20]; exact hp12
            have hx19 : h19.1[(p + 1)]? = some (hx_a, .inr (0, 960)) := by rw [e20]; exact hx12
            show fx_V l M_LI_unpackTwoRuns (0, 0) Q 0 0 69 [some (.ref 4), some (.ref p), some (.int (zI y)), some (.int (zI x)), some (.int (zI c)), some (.int (zI r6)), some (.int (zI r14))] [] h19
            refine fx_aload_n (i := 0) d_LI_unpackTwoRuns_69 rfl rfl ?_
            refine fx_aload_n (i := 1) d_LI_unpackTwoRuns_70 rfl rfl ?_
            refine fx_iload_n (i := 2) d_LI_unpackTwoRuns_71 rfl rfl ?_
            refine fx_iload_n (i := 3) d_LI_unpackTwoRuns_72 rfl rfl ?_
            refine fx_iload d_LI_unpackTwoRuns_73 rfl ?_
            refine fx_iadd d_LI_unpackTwoRuns_75 ?_
            refine fx_iload_n (i := 3) d_LI_unpackTwoRuns_76 rfl rfl ?_
            refine fx_iload d_LI_unpackTwoRuns_77 rfl ?_
            refine fx_iadd d_LI_unpackTwoRuns_79 ?_
            refine fx_iload d_LI_unpackTwoRuns_80 rfl ?_
            refine fx_iadd d_LI_unpackTwoRuns_82 ?_
            refine fx_iconst d_LI_unpackTwoRuns_83 ?_
            refine fx_iload d_LI_unpackTwoRuns_84 rfl ?_
            refine fx_isub d_LI_unpackTwoRuns_86 ?_
            refine fx_callV (M' := M_LI_paintRun) (B' := (0, 0)) (vs := [.ref p, .int (zI y), .int (zI (x + r6)), .int (zI ((x + r6) + r14)), .int (zI (1 - c))]) (rest := []) (c1 := 0) (s1 := 0) (n := 90) d_LI_unpackTwoRuns_87 ca_LI_unpackTwoRuns_80 (at_4 (h := _) hS19) rfl rfl rfl ⟨by decide, by decide⟩ (Nat.le_of_ble_eq_true rfl) (Or.inl rfl) (fx_Mt.mono H fun v h21 hv => ?_)
            obtain ⟨rfl, e22, H⟩ := hv
            have hS21 := e22.trans hS19
            have hp21 : h21.1[p]? = some (hp_a, .inl (10, [some (p + 1), none, none, none])) := by rw [e22]; exact hp19
            have hx21 : h21.1[(p + 1)]? = some (hx_a, .inr (0, 960)) := by rw [e22]; exact hx19
            show fx_V l M_LI_unpackTwoRuns (0, 0) Q 0 0 90 [some (.ref 4), some (.ref p), some (.int (zI y)), some (.int (zI x)), some (.int (zI c)), some (.int (zI r6)), some (.int (zI r14))] [] h21
            refine fx_iload_n (i := 3) d_LI_unpackTwoRuns_90 rfl rfl ?_
            refine fx_iload d_LI_unpackTwoRuns_91 rfl ?_
            refine fx_iadd d_LI_unpackTwoRuns_93 ?_
            refine fx_iload d_LI_unpackTwoRuns_94 rfl ?_
            refine fx_iadd d_LI_unpackTwoRuns_96 ?_
            exact fx_end (some (.int (zI ((x + r6) + r14)))) ⟨⟨_, rfl, rfl⟩, d_LI_unpackTwoRuns_97⟩ (Nat.le_refl _) (Nat.le_refl _) rfl H
          · replace H := H.2 z18
            refine fx_iconst d_LI_unpackTwoRuns_54 ?_
            exact fx_end (some (.int (zI (-1)))) ⟨⟨_, rfl, rfl⟩, d_LI_unpackTwoRuns_55⟩ (Nat.le_refl _) (Nat.le_refl _) rfl H
    · replace H := H.2 z8
      refine fx_iconst d_LI_unpackTwoRuns_20 ?_
      refine fx_goto (n := 39) d_LI_unpackTwoRuns_21 ?_
      refine fx_istore (ls2 := [some (.ref 4), some (.ref p), some (.int (zI y)), some (.int (zI x)), some (.int (zI c)), some (.int (zI r6)), some (.int (zI (-1)))]) d_LI_unpackTwoRuns_39 (by decide) rfl ?_
      refine fx_iload d_LI_unpackTwoRuns_41 rfl ?_
      refine fx_if_lt (t := 54) (n := 46) d_LI_unpackTwoRuns_43 (show zR (-1) by decide) (fun z => ?_) (fun z => absurd (show ¬ ((-1 : Int) < (0 : Int)) from z) (by decide))
      refine fx_iconst d_LI_unpackTwoRuns_54 ?_
      exact fx_end (some (.int (zI (-1)))) ⟨⟨_, rfl, rfl⟩, d_LI_unpackTwoRuns_55⟩ (Nat.le_refl _) (Nat.le_refl _) rfl H

set_option maxRecDepth 100000 in
set_option maxHeartbeats 4000000 in
theorem e_LI_endOfMode {l : Launch} {Q : Option Value → fx_H → Prop} {h : fx_H} {p : Nat} {o : Int} {b : Int} {c : Int} {m : Int} {hp_a : Nat} {hx_a : Nat} {a : Nat → Nat} {pp dd : Nat} (hS : h.1 = fx_S0 a pp dd) (hp : h.1[p]? = some (hp_a, .inl (10, [some (p + 1), none, none, none]))) (hx : h.1[(p + 1)]? = some (hx_a, .inr (0, 960)))
    (H : fx_Mt l M_PI_firstChange (0, 0) [.ref p, .int (zI o), .int (zI (b + 1)), .int (zI c)] h (fun v h1 => ∃ r3 : Int, v = some (.int (zI r3)) ∧ h1.1 = h.1 ∧ zR m ∧ ((m = 7 → fx_Mt l M_PI_firstUnlike (0, 0) [.ref p, .int (zI o), .int (zI (r3 + 1)), .int (zI (1 - c))] h1 (fun v h6 => ∃ r8 : Int, v = some (.int (zI r8)) ∧ h6.1 = h1.1 ∧ zR r8 ∧ zR (h6.2.1 p 2) ∧ (((h6.2.1 p 2) ≤ r8 → Q (some (.int (zI (-1)))) h6) ∧ (¬ ((h6.2.1 p 2) ≤ r8) → Q (some (.int (zI r8))) h6)))) ∧ (¬ (m = 7) → Q (some (.int (zI ((r3 + m) - 3)))) h1)))) :
    fx_Mt l M_LI_endOfMode (0, 0) [.ref 4, .ref p, .int (zI o), .int (zI b), .int (zI c), .int (zI m)] h Q := by
  refine fx_entry (ls := [some (.ref 4), some (.ref p), some (.int (zI o)), some (.int (zI b)), some (.int (zI c)), some (.int (zI m)), none, none]) (by decide) (Nat.le_of_ble_eq_true rfl) rfl ?_
  refine fx_aload_n (i := 1) d_LI_endOfMode_0 rfl rfl ?_
  refine fx_iload_n (i := 2) d_LI_endOfMode_1 rfl rfl ?_
  refine fx_iload_n (i := 3) d_LI_endOfMode_2 rfl rfl ?_
  refine fx_iconst d_LI_endOfMode_3 ?_
  refine fx_iadd d_LI_endOfMode_4 ?_
  refine fx_iload d_LI_endOfMode_5 rfl ?_
  refine fx_callV (M' := M_PI_firstChange) (B' := (0, 0)) (vs := [.int (zI o), .int (zI (b + 1)), .int (zI c)]) (rest := []) (c1 := 0) (s1 := 0) (n := 10) d_LI_endOfMode_7 ca_LI_endOfMode_84 hp rfl rfl rfl ⟨by decide, by decide⟩ (Nat.le_of_ble_eq_true rfl) (Or.inl rfl) (fx_Mt.mono H fun v h1 hv => ?_)
  obtain ⟨r3, rfl, e2, H⟩ := hv
  have hS1 := e2.trans hS
  have hp1 : h1.1[p]? = some (hp_a, .inl (10, [some (p + 1), none, none, none])) := by rw [e2]; exact hp
  have hx1 : h1.1[(p + 1)]? = some (hx_a, .inr (0, 960)) := by rw [e2]; exact hx
  show fx_V l M_LI_endOfMode (0, 0) Q 0 0 10 [some (.ref 4), some (.ref p), some (.int (zI o)), some (.int (zI b)), some (.int (zI c)), some (.int (zI m)), none, none] [.int (zI r3)] h1
  refine fx_istore (ls2 := [some (.ref 4), some (.ref p), some (.int (zI o)), some (.int (zI b)), some (.int (zI c)), some (.int (zI m)), some (.int (zI r3)), none]) d_LI_endOfMode_10 (by decide) rfl ?_
  refine fx_iload d_LI_endOfMode_12 rfl ?_
  refine fx_bipush (v := 7) d_LI_endOfMode_14 rfl ?_
  obtain ⟨hz4, H⟩ := H
  refine fx_icmp_eq (t := 27) (n := 19) d_LI_endOfMode_16 hz4 (show zR 7 by decide) (fun z5 => ?_) (fun z5 => ?_)
  · replace H := H.1 z5
    refine fx_aload_n (i := 1) d_LI_endOfMode_27 rfl rfl ?_
    refine fx_iload_n (i := 2) d_LI_endOfMode_28 rfl rfl ?_
    refine fx_iload d_LI_endOfMode_29 rfl ?_
    refine fx_iconst d_LI_endOfMode_31 ?_
    refine fx_iadd d_LI_endOfMode_32 ?_
    refine fx_iconst d_LI_endOfMode_33 ?_
    refine fx_iload d_LI_endOfMode_34 rfl ?_
    refine fx_isub d_LI_endOfMode_36 ?_
    refine fx_callV (M' := M_PI_firstUnlike) (B' := (0, 0)) (vs := [.int (zI o), .int (zI (r3 + 1)), .int (zI (1 - c))]) (rest := []) (c1 := 0) (s1 := 0) (n := 40) d_LI_endOfMode_37 ca_LI_endOfMode_59 hp1 rfl rfl rfl ⟨by decide, by decide⟩ (Nat.le_of_ble_eq_true rfl) (Or.inl rfl) (fx_Mt.mono H fun v h6 hv => ?_)
    obtain ⟨r8, rfl, e7, H⟩ := hv
    have hS6 := e7.trans hS1
    have hp6 : h6.1[p]? = some (hp_a, .inl (10, [some (p + 1), none, none, none])) := by rw [e7]; exact hp1
    have hx6 : h6.1[(p + 1)]? = some (hx_a, .inr (0, 960)) := by rw [e7]; exact hx1
    show fx_V l M_LI_endOfMode (0, 0) Q 0 0 40 [some (.ref 4), some (.ref p), some (.int (zI o)), some (.int (zI b)), some (.int (zI c)), some (.int (zI m)), some (.int (zI r3)), none] [.int (zI r8)] h6
    refine fx_istore (ls2 := [some (.ref 4), some (.ref p), some (.int (zI o)), some (.int (zI b)), some (.int (zI c)), some (.int (zI m)), some (.int (zI r3)), some (.int (zI r8))]) d_LI_endOfMode_40 (by decide) rfl ?_
    refine fx_iload d_LI_endOfMode_42 rfl ?_
    refine fx_aload_n (i := 1) d_LI_endOfMode_44 rfl rfl ?_
    refine fx_getI d_LI_endOfMode_45 lk_LI_53 hp6 rfl ?_
    obtain ⟨hz9, H⟩ := H
    obtain ⟨hz10, H⟩ := H
    refine fx_icmp_ge (t := 56) (n := 51) d_LI_endOfMode_48 hz9 hz10 (fun z11 => ?_) (fun z11 => ?_)
    · replace H := H.1 z11
      refine fx_iconst d_LI_endOfMode_56 ?_
      exact fx_end (some (.int (zI (-1)))) ⟨⟨_, rfl, rfl⟩, d_LI_endOfMode_57⟩ (Nat.le_refl _) (Nat.le_refl _) rfl H
    · replace H := H.2 z11
      refine fx_iload d_LI_endOfMode_51 rfl ?_
      refine fx_goto (n := 57) d_LI_endOfMode_53 ?_
      exact fx_end (some (.int (zI r8))) ⟨⟨_, rfl, rfl⟩, d_LI_endOfMode_57⟩ (Nat.le_refl _) (Nat.le_refl _) rfl H
  · replace H := H.2 z5
    refine fx_iload d_LI_endOfMode_19 rfl ?_
    refine fx_iload d_LI_endOfMode_21 rfl ?_
    refine fx_iadd d_LI_endOfMode_23 ?_
    refine fx_iconst d_LI_endOfMode_24 ?_
    refine fx_isub d_LI_endOfMode_25 ?_
    exact fx_end (some (.int (zI ((r3 + m) - 3)))) ⟨⟨_, rfl, rfl⟩, d_LI_endOfMode_26⟩ (Nat.le_refl _) (Nat.le_refl _) rfl H

set_option maxRecDepth 100000 in
set_option maxHeartbeats 4000000 in
theorem e_LI_paintRun {l : Launch} {Q : Option Value → fx_H → Prop} {h : fx_H} {p : Nat} {y : Int} {x : Int} {z : Int} {c : Int} {hp_a : Nat} {hx_a : Nat} {a : Nat → Nat} {pp dd : Nat} (hS : h.1 = fx_S0 a pp dd) (hp : h.1[p]? = some (hp_a, .inl (10, [some (p + 1), none, none, none]))) (hx : h.1[(p + 1)]? = some (hx_a, .inr (0, 960)))
    (H : (fx_V l M_LI_paintRun (0, 0) Q 0 0 3 [none, some (.ref p), some (.int (zI y)), none, some (.int (zI z)), some (.int (zI c)), some (.int (zI x))] [] h)) :
    fx_Mt l M_LI_paintRun (0, 0) [.ref 4, .ref p, .int (zI y), .int (zI x), .int (zI z), .int (zI c)] h Q := by
  refine fx_entry (ls := [some (.ref 4), some (.ref p), some (.int (zI y)), some (.int (zI x)), some (.int (zI z)), some (.int (zI c)), none]) (by decide) (Nat.le_of_ble_eq_true rfl) rfl ?_
  refine fx_iload_n (i := 3) d_LI_paintRun_0 rfl rfl ?_
  refine fx_istore (ls2 := [some (.ref 4), some (.ref p), some (.int (zI y)), some (.int (zI x)), some (.int (zI z)), some (.int (zI c)), some (.int (zI x))]) d_LI_paintRun_1 (by decide) rfl ?_
  exact fx_fewer [none, some (.ref p), some (.int (zI y)), none, some (.int (zI z)), some (.int (zI c)), some (.int (zI x))] ⟨rfl, rfl, rfl, rfl, rfl, trivial⟩ H

set_option maxRecDepth 100000 in
set_option maxHeartbeats 4000000 in
theorem w_LI_paintRun_3 {l : Launch} {Q : Option Value → fx_H → Prop} {h : fx_H} {p : Nat} {x2 : Int} {x4 : Int} {x5 : Int} {x6 : Int} {hp_a : Nat} {hx_a : Nat} {a : Nat → Nat} {pp dd : Nat} (hS : h.1 = fx_S0 a pp dd) (hp : h.1[p]? = some (hp_a, .inl (10, [some (p + 1), none, none, none]))) (hx : h.1[(p + 1)]? = some (hx_a, .inr (0, 960)))
    (H : zR x6 ∧ zR x4 ∧ ((x4 ≤ x6 → Q none h) ∧ (¬ (x4 ≤ x6) → fx_Mt l M_PI_paint (0, 0) [.ref p, .int (zI x6), .int (zI x2), .int (zI x5)] h (fun v h4 => v = none ∧ h4.1 = h.1 ∧ (fx_V l M_LI_paintRun (0, 0) Q 0 0 3 [none, some (.ref p), some (.int (zI x2)), none, some (.int (zI x4)), some (.int (zI x5)), some (.int (zI (x6 + 1)))] [] h4))))) :
    fx_V l M_LI_paintRun (0, 0) Q 0 0 3 [none, some (.ref p), some (.int (zI x2)), none, some (.int (zI x4)), some (.int (zI x5)), some (.int (zI x6))] [] h := by
  refine fx_iload d_LI_paintRun_3 rfl ?_
  refine fx_iload d_LI_paintRun_5 rfl ?_
  obtain ⟨hz1, H⟩ := H
  obtain ⟨hz2, H⟩ := H
  refine fx_icmp_ge (t := 25) (n := 10) d_LI_paintRun_7 hz1 hz2 (fun z3 => ?_) (fun z3 => ?_)
  · replace H := H.1 z3
    exact fx_end none ⟨rfl, d_LI_paintRun_25⟩ (Nat.le_refl _) (Nat.le_refl _) rfl H
  · replace H := H.2 z3
    refine fx_aload_n (i := 1) d_LI_paintRun_10 rfl rfl ?_
    refine fx_iload d_LI_paintRun_11 rfl ?_
    refine fx_iload_n (i := 2) d_LI_paintRun_13 rfl rfl ?_
    refine fx_iload d_LI_paintRun_14 rfl ?_
    refine fx_callV (M' := M_PI_paint) (B' := (0, 0)) (vs := [.int (zI x6), .int (zI x2), .int (zI x5)]) (rest := []) (c1 := 0) (s1 := 0) (n := 19) d_LI_paintRun_16 ca_LI_paintRun_95 hp rfl rfl rfl ⟨by decide, by decide⟩ (Nat.le_of_ble_eq_true rfl) (Or.inl rfl) (fx_Mt.mono H fun v h4 hv => ?_)
    obtain ⟨rfl, e5, H⟩ := hv
    have hS4 := e5.trans hS
    have hp4 : h4.1[p]? = some (hp_a, .inl (10, [some (p + 1), none, none, none])) := by rw [e5]; exact hp
    have hx4 : h4.1[(p + 1)]? = some (hx_a, .inr (0, 960)) := by rw [e5]; exact hx
    show fx_V l M_LI_paintRun (0, 0) Q 0 0 19 [none, some (.ref p), some (.int (zI x2)), none, some (.int (zI x4)), some (.int (zI x5)), some (.int (zI x6))] [] h4
    refine fx_iinc (v := x6 + 1) (ls2 := [none, some (.ref p), some (.int (zI x2)), none, some (.int (zI x4)), some (.int (zI x5)), some (.int (zI (x6 + 1)))]) d_LI_paintRun_19 rfl rfl (by decide) rfl ?_
    refine fx_goto (n := 3) d_LI_paintRun_22 ?_
    exact H

