/-! what is owed of the numbers, by program (wip/printvc.py) -/
set_option maxRecDepth 100000 in
set_option maxHeartbeats 4000000 in
theorem e_AR_fill_960 {l : Launch} {Q : Option Value → fx_H → Prop} {h : fx_H} {q : Nat} {u : Int} {hq_a : Nat} (hq : h.1[q]? = some (hq_a, .inr (0, 960)))
    (H : (fx_V l M_AR_fill (0, 0) Q 0 0 5 [some (.ref q), some (.int (zI u)), some (.int (zI 0)), some (.int (zI 960))] [] h)) :
    fx_Mt l M_AR_fill (0, 0) [.ref q, .int (zI u)] h Q := by
  refine fx_entry (ls := [some (.ref q), some (.int (zI u)), none, none]) (by decide) (Nat.le_of_ble_eq_true rfl) rfl ?_
  refine fx_iconst d_AR_fill_0 ?_
  refine fx_istore_n (i := 2) (ls2 := [some (.ref q), some (.int (zI u)), some (.int (zI 0)), none]) d_AR_fill_1 rfl (by decide) rfl ?_
  refine fx_aload_n (i := 0) d_AR_fill_2 rfl rfl ?_
  refine fx_alen (v := 960) d_AR_fill_3 hq rfl ?_
  refine fx_istore_n (i := 3) (ls2 := [some (.ref q), some (.int (zI u)), some (.int (zI 0)), some (.int (zI 960))]) d_AR_fill_4 rfl (by decide) rfl ?_
  exact H

set_option maxRecDepth 100000 in
set_option maxHeartbeats 4000000 in
theorem w_AR_fill_5_960 {l : Launch} {Q : Option Value → fx_H → Prop} {h : fx_H} {q : Nat} {x1 : Int} {x2 : Int} {x3 : Int} {hq_a : Nat} (hq : h.1[q]? = some (hq_a, .inr (0, 960)))
    (H : zR x2 ∧ zR x3 ∧ ((x3 ≤ x2 → Q none h) ∧ (¬ (x3 ≤ x2) → 0 ≤ x2 ∧ x2 < 960 ∧ (fx_V l M_AR_fill (0, 0) Q 0 0 5 [some (.ref q), some (.int (zI x1)), some (.int (zI (x2 + 1))), some (.int (zI x3))] [] (fx_uA h q (x2.toNat) x1))))) :
    fx_V l M_AR_fill (0, 0) Q 0 0 5 [some (.ref q), some (.int (zI x1)), some (.int (zI x2)), some (.int (zI x3))] [] h := by
  refine fx_iload_n (i := 2) d_AR_fill_5 rfl rfl ?_
  refine fx_iload_n (i := 3) d_AR_fill_6 rfl rfl ?_
  obtain ⟨hz1, H⟩ := H
  obtain ⟨hz2, H⟩ := H
  refine fx_icmp_ge (t := 20) (n := 10) d_AR_fill_7 hz1 hz2 (fun z3 => ?_) (fun z3 => ?_)
  · replace H := H.1 z3
    exact fx_end none ⟨rfl, d_AR_fill_20⟩ (Nat.le_refl _) (Nat.le_refl _) rfl H
  · replace H := H.2 z3
    refine fx_aload_n (i := 0) d_AR_fill_10 rfl rfl ?_
    refine fx_iload_n (i := 2) d_AR_fill_11 rfl rfl ?_
    refine fx_iload_n (i := 1) d_AR_fill_12 rfl rfl ?_
    obtain ⟨hn4, H⟩ := H
    obtain ⟨hn5, H⟩ := H
    refine fx_iast d_AR_fill_13 hq hn4 hn5 (by decide) ?_
    refine fx_iinc (v := x2 + 1) (ls2 := [some (.ref q), some (.int (zI x1)), some (.int (zI (x2 + 1))), some (.int (zI x3))]) d_AR_fill_14 rfl rfl (by decide) rfl ?_
    refine fx_goto (n := 5) d_AR_fill_17 ?_
    exact H

set_option maxRecDepth 100000 in
set_option maxHeartbeats 4000000 in
theorem e_AR_fill_9 {l : Launch} {Q : Option Value → fx_H → Prop} {h : fx_H} {q : Nat} {u : Int} {hq_a : Nat} (hq : h.1[q]? = some (hq_a, .inr (0, 9)))
    (H : (fx_V l M_AR_fill (0, 0) Q 0 0 5 [some (.ref q), some (.int (zI u)), some (.int (zI 0)), some (.int (zI 9))] [] h)) :
    fx_Mt l M_AR_fill (0, 0) [.ref q, .int (zI u)] h Q := by
  refine fx_entry (ls := [some (.ref q), some (.int (zI u)), none, none]) (by decide) (Nat.le_of_ble_eq_true rfl) rfl ?_
  refine fx_iconst d_AR_fill_0 ?_
  refine fx_istore_n (i := 2) (ls2 := [some (.ref q), some (.int (zI u)), some (.int (zI 0)), none]) d_AR_fill_1 rfl (by decide) rfl ?_
  refine fx_aload_n (i := 0) d_AR_fill_2 rfl rfl ?_
  refine fx_alen (v := 9) d_AR_fill_3 hq rfl ?_
  refine fx_istore_n (i := 3) (ls2 := [some (.ref q), some (.int (zI u)), some (.int (zI 0)), some (.int (zI 9))]) d_AR_fill_4 rfl (by decide) rfl ?_
  exact H

set_option maxRecDepth 100000 in
set_option maxHeartbeats 4000000 in
theorem w_AR_fill_5_9 {l : Launch} {Q : Option Value → fx_H → Prop} {h : fx_H} {q : Nat} {x1 : Int} {x2 : Int} {x3 : Int} {hq_a : Nat} (hq : h.1[q]? = some (hq_a, .inr (0, 9)))
    (H : zR x2 ∧ zR x3 ∧ ((x3 ≤ x2 → Q none h) ∧ (¬ (x3 ≤ x2) → 0 ≤ x2 ∧ x2 < 9 ∧ (fx_V l M_AR_fill (0, 0) Q 0 0 5 [some (.ref q), some (.int (zI x1)), some (.int (zI (x2 + 1))), some (.int (zI x3))] [] (fx_uA h q (x2.toNat) x1))))) :
    fx_V l M_AR_fill (0, 0) Q 0 0 5 [some (.ref q), some (.int (zI x1)), some (.int (zI x2)), some (.int (zI x3))] [] h := by
  refine fx_iload_n (i := 2) d_AR_fill_5 rfl rfl ?_
  refine fx_iload_n (i := 3) d_AR_fill_6 rfl rfl ?_
  obtain ⟨hz1, H⟩ := H
  obtain ⟨hz2, H⟩ := H
  refine fx_icmp_ge (t := 20) (n := 10) d_AR_fill_7 hz1 hz2 (fun z3 => ?_) (fun z3 => ?_)
  · replace H := H.1 z3
    exact fx_end none ⟨rfl, d_AR_fill_20⟩ (Nat.le_refl _) (Nat.le_refl _) rfl H
  · replace H := H.2 z3
    refine fx_aload_n (i := 0) d_AR_fill_10 rfl rfl ?_
    refine fx_iload_n (i := 2) d_AR_fill_11 rfl rfl ?_
    refine fx_iload_n (i := 1) d_AR_fill_12 rfl rfl ?_
    obtain ⟨hn4, H⟩ := H
    obtain ⟨hn5, H⟩ := H
    refine fx_iast d_AR_fill_13 hq hn4 hn5 (by decide) ?_
    refine fx_iinc (v := x2 + 1) (ls2 := [some (.ref q), some (.int (zI x1)), some (.int (zI (x2 + 1))), some (.int (zI x3))]) d_AR_fill_14 rfl rfl (by decide) rfl ?_
    refine fx_goto (n := 5) d_AR_fill_17 ?_
    exact H

set_option maxRecDepth 100000 in
set_option maxHeartbeats 4000000 in
theorem e_AR_fill_658 {l : Launch} {Q : Option Value → fx_H → Prop} {h : fx_H} {q : Nat} {u : Int} {hq_a : Nat} (hq : h.1[q]? = some (hq_a, .inr (0, 658)))
    (H : (fx_V l M_AR_fill (0, 0) Q 0 0 5 [some (.ref q), some (.int (zI u)), some (.int (zI 0)), some (.int (zI 658))] [] h)) :
    fx_Mt l M_AR_fill (0, 0) [.ref q, .int (zI u)] h Q := by
  refine fx_entry (ls := [some (.ref q), some (.int (zI u)), none, none]) (by decide) (Nat.le_of_ble_eq_true rfl) rfl ?_
  refine fx_iconst d_AR_fill_0 ?_
  refine fx_istore_n (i := 2) (ls2 := [some (.ref q), some (.int (zI u)), some (.int (zI 0)), none]) d_AR_fill_1 rfl (by decide) rfl ?_
  refine fx_aload_n (i := 0) d_AR_fill_2 rfl rfl ?_
  refine fx_alen (v := 658) d_AR_fill_3 hq rfl ?_
  refine fx_istore_n (i := 3) (ls2 := [some (.ref q), some (.int (zI u)), some (.int (zI 0)), some (.int (zI 658))]) d_AR_fill_4 rfl (by decide) rfl ?_
  exact H

set_option maxRecDepth 100000 in
set_option maxHeartbeats 4000000 in
theorem w_AR_fill_5_658 {l : Launch} {Q : Option Value → fx_H → Prop} {h : fx_H} {q : Nat} {x1 : Int} {x2 : Int} {x3 : Int} {hq_a : Nat} (hq : h.1[q]? = some (hq_a, .inr (0, 658)))
    (H : zR x2 ∧ zR x3 ∧ ((x3 ≤ x2 → Q none h) ∧ (¬ (x3 ≤ x2) → 0 ≤ x2 ∧ x2 < 658 ∧ (fx_V l M_AR_fill (0, 0) Q 0 0 5 [some (.ref q), some (.int (zI x1)), some (.int (zI (x2 + 1))), some (.int (zI x3))] [] (fx_uA h q (x2.toNat) x1))))) :
    fx_V l M_AR_fill (0, 0) Q 0 0 5 [some (.ref q), some (.int (zI x1)), some (.int (zI x2)), some (.int (zI x3))] [] h := by
  refine fx_iload_n (i := 2) d_AR_fill_5 rfl rfl ?_
  refine fx_iload_n (i := 3) d_AR_fill_6 rfl rfl ?_
  obtain ⟨hz1, H⟩ := H
  obtain ⟨hz2, H⟩ := H
  refine fx_icmp_ge (t := 20) (n := 10) d_AR_fill_7 hz1 hz2 (fun z3 => ?_) (fun z3 => ?_)
  · replace H := H.1 z3
    exact fx_end none ⟨rfl, d_AR_fill_20⟩ (Nat.le_refl _) (Nat.le_refl _) rfl H
  · replace H := H.2 z3
    refine fx_aload_n (i := 0) d_AR_fill_10 rfl rfl ?_
    refine fx_iload_n (i := 2) d_AR_fill_11 rfl rfl ?_
    refine fx_iload_n (i := 1) d_AR_fill_12 rfl rfl ?_
    obtain ⟨hn4, H⟩ := H
    obtain ⟨hn5, H⟩ := H
    refine fx_iast d_AR_fill_13 hq hn4 hn5 (by decide) ?_
    refine fx_iinc (v := x2 + 1) (ls2 := [some (.ref q), some (.int (zI x1)), some (.int (zI (x2 + 1))), some (.int (zI x3))]) d_AR_fill_14 rfl rfl (by decide) rfl ?_
    refine fx_goto (n := 5) d_AR_fill_17 ?_
    exact H

set_option maxRecDepth 100000 in
set_option maxHeartbeats 4000000 in
theorem e_PI_clear {l : Launch} {Q : Option Value → fx_H → Prop} {h : fx_H} {p : Nat} {g : Int} {x : Int} {y : Int} {hp_a : Nat} {hx_a : Nat} (hp : h.1[p]? = some (hp_a, .inl (10, [some (p + 1), none, none, none]))) (hx : h.1[(p + 1)]? = some (hx_a, .inr (0, 960)))
    (H : (g = 0 ∨ g = 1) ∧ fx_Mt l M_AR_fill (0, 0) [.ref ((p + 1)), .int (zI 0)] (fx_uF (fx_uF (fx_uF h p 1 g) p 2 x) p 3 y) (fun v h2 => v = none ∧ h2.1 = (fx_uF (fx_uF (fx_uF h p 1 g) p 2 x) p 3 y).1 ∧ Q none h2)) :
    fx_Mt l M_PI_clear (0, 0) [.ref p, .int (zI g), .int (zI x), .int (zI y)] h Q := by
  refine fx_entry (ls := [some (.ref p), some (.int (zI g)), some (.int (zI x)), some (.int (zI y))]) (by decide) (Nat.le_of_ble_eq_true rfl) rfl ?_
  refine fx_aload_n (i := 0) d_PI_clear_0 rfl rfl ?_
  refine fx_iload_n (i := 1) d_PI_clear_1 rfl rfl ?_
  obtain ⟨hn1, H⟩ := H
  refine fx_putI d_PI_clear_2 lk_PI_22 hp rfl (fx_nb hn1) (fx_fb hn1) ?_
  refine fx_aload_n (i := 0) d_PI_clear_5 rfl rfl ?_
  refine fx_iload_n (i := 2) d_PI_clear_6 rfl rfl ?_
  refine fx_putI d_PI_clear_7 lk_PI_15 hp rfl rfl rfl ?_
  refine fx_aload_n (i := 0) d_PI_clear_10 rfl rfl ?_
  refine fx_iload_n (i := 3) d_PI_clear_11 rfl rfl ?_
  refine fx_putI d_PI_clear_12 lk_PI_19 hp rfl rfl rfl ?_
  refine fx_aload_n (i := 0) d_PI_clear_15 rfl rfl ?_
  refine fx_getR (q := (p + 1)) d_PI_clear_16 lk_PI_9 hp rfl rfl ?_
  refine fx_iconst d_PI_clear_19 ?_
  refine fx_callS (M' := M_AR_fill) (B' := (0, 0)) (vs := [.ref ((p + 1)), .int (zI 0)]) (rest := []) (c1 := 0) (s1 := 0) (n := 23) d_PI_clear_20 ca_PI_clear_26 rfl rfl ⟨by decide, by decide⟩ (Nat.le_of_ble_eq_true rfl) (Or.inl rfl) (fx_Mt.mono H fun v h2 hv => ?_)
  obtain ⟨rfl, e3, H⟩ := hv
  have hp2 : h2.1[p]? = some (hp_a, .inl (10, [some (p + 1), none, none, none])) := by rw [e3]; exact hp
  have hx2 : h2.1[(p + 1)]? = some (hx_a, .inr (0, 960)) := by rw [e3]; exact hx
  show fx_V l M_PI_clear (0, 0) Q 0 0 23 [some (.ref p), some (.int (zI g)), some (.int (zI x)), some (.int (zI y))] [] h2
  exact fx_end none ⟨rfl, d_PI_clear_23⟩ (Nat.le_refl _) (Nat.le_refl _) rfl H

