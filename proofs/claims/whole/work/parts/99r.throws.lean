/-! the throws of the class's public calls -/
def fx_wck : List Cond → List (Option Nat) → Bool
  | [], [] => true
  | w :: ws, some i :: js => decide (tables_1[i]? = some w) && (goodWord w || fx_isx w) && fx_wck ws js
  | w :: ws, none :: js => decide (w ∈ fx_zw) && fx_wck ws js
  | _, _ => false
theorem fx_wck_use : ∀ (ws : List Cond) (js : List (Option Nat)), fx_wck ws js = true → ∀ w ∈ ws, (w ∈ fx_tb ∨ w ∈ fx_xw) ∨ w ∈ fx_zw
  | [], _, _, w, hw => absurd hw (by simp)
  | u :: ws, [], h, w, hw => by simp [fx_wck] at h
  | u :: ws, some i :: js, h, w, hw => by
    simp only [fx_wck, Bool.and_eq_true, Bool.or_eq_true, decide_eq_true_eq] at h
    obtain ⟨⟨h1, h2⟩, h3⟩ := h
    rcases List.mem_cons.mp hw with rfl | hw
    · rcases h2 with h2 | h2
      · exact Or.inl (Or.inl (fx_in i h1 h2))
      · exact Or.inl (Or.inr (fx_ix i h1 h2))
    · exact fx_wck_use ws js h3 w hw
  | u :: ws, none :: js, h, w, hw => by
    simp only [fx_wck, Bool.and_eq_true, Bool.or_eq_true, decide_eq_true_eq] at h
    rcases List.mem_cons.mp hw with rfl | hw
    · exact Or.inr h.1
    · exact fx_wck_use ws js h.2 w hw
theorem wx_IA : fx_wx "FaxPages" 90 "java/lang/IllegalArgumentException" := fx_wck_use _ [some 14, some 647, some 656, some 660, some 663, some 665, some 648, some 649, some 27, some 28, some 650, some 655, some 661, some 677, some 637, some 678, some 639, some 679, some 641, some 651, none, some 653, none, some 643, some 667, some 668, some 669, some 670, some 628, some 670, some 671, some 672, some 673, some 630, some 673, some 674, some 675, some 648, some 632, some 666, some 626, some 627, some 634, some 635, some 636, some 638, some 640, some 642, none, none, some 646, some 645, some 644] (by decide +kernel)
theorem xt_IA {l : Launch} {M : fx_M} {pc : Nat} {ls : List (Option Value)} {h : fx_H} (htl : l.stackTraces = false) (hM : M.1.cls = "FaxPages") (d0 : decode M.2.1 pc = .ok (.new 88, 3)) (d3 : decode M.2.1 (pc + 3) = .ok (.dup, 1)) (d4 : decode M.2.1 (pc + 4) = .ok (.invokespecial 90, 3)) (d7 : decode M.2.1 (pc + 7) = .ok (.athrow, 1)) (hfr : 6 ≤ M.2.2.2.2.1) (hlc : 100 ≤ M.2.2.2.2.2) : fx_N l M (1, 6) (fx_ET "java/lang/IllegalArgumentException") pc ls [] h :=
  fn_throw htl d0 d3 d4 d7 (by decide +kernel) (by rw [hM]; exact fx_in 625 (by decide +kernel) rfl) (fx_in 626 (by decide +kernel) rfl) (fx_in 17 (by decide +kernel) rfl) (by rw [hM]; exact wx_IA) hfr hlc
theorem wx_IO : fx_wx "FaxPages" 101 "java/lang/IndexOutOfBoundsException" := fx_wck_use _ [some 14, some 647, some 656, some 660, some 663, some 665, some 648, some 649, some 27, some 28, some 650, some 655, some 661, some 677, some 637, some 678, some 639, some 679, some 641, some 651, none, some 653, none, some 643, some 706, some 707, some 708, some 670, some 628, some 670, some 671, some 672, some 673, some 630, some 673, some 674, some 675, some 648, some 632, some 705, some 697, some 698, some 699, some 659, some 700, some 701, some 702, some 703, none, none, some 646, some 645, some 704] (by decide +kernel)
theorem xt_IO {l : Launch} {M : fx_M} {pc : Nat} {ls : List (Option Value)} {h : fx_H} (htl : l.stackTraces = false) (hM : M.1.cls = "FaxPages") (d0 : decode M.2.1 pc = .ok (.new 99, 3)) (d3 : decode M.2.1 (pc + 3) = .ok (.dup, 1)) (d4 : decode M.2.1 (pc + 4) = .ok (.invokespecial 101, 3)) (d7 : decode M.2.1 (pc + 7) = .ok (.athrow, 1)) (hfr : 6 ≤ M.2.2.2.2.1) (hlc : 100 ≤ M.2.2.2.2.2) : fx_N l M (1, 6) (fx_ET "java/lang/IndexOutOfBoundsException") pc ls [] h :=
  fn_throw htl d0 d3 d4 d7 (by decide +kernel) (by rw [hM]; exact fx_in 696 (by decide +kernel) rfl) (fx_in 697 (by decide +kernel) rfl) (fx_in 19 (by decide +kernel) rfl) (by rw [hM]; exact wx_IO) hfr hlc
theorem wx_IS : fx_wx "FaxPages" 137 "java/lang/IllegalStateException" := fx_wck_use _ [some 14, some 647, some 656, some 660, some 663, some 665, some 648, some 649, some 27, some 28, some 650, some 655, some 661, some 677, some 637, some 678, some 639, some 679, some 641, some 651, none, some 653, none, some 643, some 731, some 732, some 733, some 670, some 628, some 670, some 671, some 672, some 673, some 630, some 673, some 674, some 675, some 648, some 632, some 730, some 722, some 723, some 724, some 658, some 725, some 726, some 727, some 728, none, none, some 646, some 645, some 729] (by decide +kernel)
theorem xt_IS {l : Launch} {M : fx_M} {pc : Nat} {ls : List (Option Value)} {h : fx_H} (htl : l.stackTraces = false) (hM : M.1.cls = "FaxPages") (d0 : decode M.2.1 pc = .ok (.new 135, 3)) (d3 : decode M.2.1 (pc + 3) = .ok (.dup, 1)) (d4 : decode M.2.1 (pc + 4) = .ok (.invokespecial 137, 3)) (d7 : decode M.2.1 (pc + 7) = .ok (.athrow, 1)) (hfr : 6 ≤ M.2.2.2.2.1) (hlc : 100 ≤ M.2.2.2.2.2) : fx_N l M (1, 6) (fx_ET "java/lang/IllegalStateException") pc ls [] h :=
  fn_throw htl d0 d3 d4 d7 (by decide +kernel) (by rw [hM]; exact fx_in 721 (by decide +kernel) rfl) (fx_in 722 (by decide +kernel) rfl) (fx_in 20 (by decide +kernel) rfl) (by rw [hM]; exact wx_IS) hfr hlc
abbrev xIA : String := "java/lang/IllegalArgumentException"
abbrev xIO : String := "java/lang/IndexOutOfBoundsException"
abbrev xIS : String := "java/lang/IllegalStateException"
section XT
variable {l : Launch} {h : fx_H} {a : Nat → Nat} {pp dd : Nat} {L : List Int}
theorem x_cut {n : Int} (htl : l.stackTraces = false) (hn : zR n) (hz : n < 0) : fx_Mx l M_FP_cut [.ref 0, .int (zI n)] h xIA := by
  refine fx_entryX (ls := [some (.ref 0), some (.int (zI n)), none]) (by decide) (Nat.le_of_ble_eq_true rfl) rfl ?_
  refine fn_iload_n (i := 1) d_FP_cut_0 rfl rfl ?_
  refine fn_if_ge (t := 12) (n := 4) d_FP_cut_1 hn (fun z2 => absurd hz (by omega)) (fun z2 => ?_)
  exact xt_IA htl rfl d_FP_cut_4 d_FP_cut_7 d_FP_cut_8 d_FP_cut_11 (by decide) (by decide)
theorem x_put1 {x b c : Int} (htl : l.stackTraces = false) (hS : h.1 = fx_S0 a pp dd) (cl : cL h L c) (hx : zR x) (hz : ¬ (0 ≤ x ∧ x < L.length)) : fx_Mx l M_FP_put [.ref 0, .int (zI x), .int (zI b)] h xIO := by
  refine fx_entryX (ls := [some (.ref 0), some (.int (zI x)), some (.int (zI b)), none]) (by decide) (Nat.le_of_ble_eq_true rfl) rfl ?_
  refine fn_aload_n (i := 0) d_FP_put_0 rfl rfl ?_
  refine fn_getR (q := 1) d_FP_put_1 lk_FP_20 (at_0 (h := _) hS) rfl rfl ?_
  refine fn_iload_n (i := 1) d_FP_put_4 rfl rfl ?_
  refine fn_callV (M' := M_BY_has) (vs := [.int (zI x)]) (rest := []) d_FP_put_5 ca_FP_put_188 (at_1 (h := _) hS) rfl rfl rfl (Nat.le_of_ble_eq_true rfl) (q_BYhas hS cl hx) (fun r q => ?_)
  rcases q with ⟨q1, q2⟩ | ⟨q1, q2⟩
  · exact absurd q2 hz
  subst q1
  refine fn_if_ne (t := 19) (n := 11) d_FP_put_8 (show zR 0 by decide) (fun z => absurd rfl z) (fun _ => ?_)
  exact xt_IO htl rfl d_FP_put_11 d_FP_put_14 d_FP_put_15 d_FP_put_18 (by decide) (by decide)
theorem x_put2 {x b c : Int} (htl : l.stackTraces = false) (hS : h.1 = fx_S0 a pp dd) (cl : cL h L c) (hx : zR x) (hb : zR b) (hz : 0 ≤ x ∧ x < L.length) (hz2 : ¬ (0 ≤ b ∧ b < 256)) : fx_Mx l M_FP_put [.ref 0, .int (zI x), .int (zI b)] h xIA := by
  refine fx_entryX (ls := [some (.ref 0), some (.int (zI x)), some (.int (zI b)), none]) (by decide) (Nat.le_of_ble_eq_true rfl) rfl ?_
  refine fn_aload_n (i := 0) d_FP_put_0 rfl rfl ?_
  refine fn_getR (q := 1) d_FP_put_1 lk_FP_20 (at_0 (h := _) hS) rfl rfl ?_
  refine fn_iload_n (i := 1) d_FP_put_4 rfl rfl ?_
  refine fn_callV (M' := M_BY_has) (vs := [.int (zI x)]) (rest := []) d_FP_put_5 ca_FP_put_188 (at_1 (h := _) hS) rfl rfl rfl (Nat.le_of_ble_eq_true rfl) (q_BYhas hS cl hx) (fun r q => ?_)
  rcases q with ⟨q1, q2⟩ | ⟨q1, q2⟩
  rotate_left
  · exact absurd hz q2
  subst q1
  refine fn_if_ne (t := 19) (n := 11) d_FP_put_8 (show zR 1 by decide) (fun _ => ?_) (fun z => absurd z (by decide))
  refine fn_iload_n (i := 2) d_FP_put_19 rfl rfl ?_
  refine fn_callS (M' := M_FP_isByte) (vs := [.int (zI b)]) (rest := []) d_FP_put_20 ca_FP_put_194 rfl rfl (Nat.le_of_ble_eq_true rfl) (q_isByte hS hb) (fun r q => ?_)
  rcases q with ⟨q1, q2⟩ | ⟨q1, q2⟩
  · exact absurd q2 hz2
  subst q1
  refine fn_if_ne (t := 34) (n := 26) d_FP_put_23 (show zR 0 by decide) (fun z => absurd rfl z) (fun _ => ?_)
  exact xt_IA htl rfl d_FP_put_26 d_FP_put_29 d_FP_put_30 d_FP_put_33 (by decide) (by decide)
theorem x_set1 {x y u : Int} (htl : l.stackTraces = false) (hS : h.1 = fx_S0 a pp dd) (ok : fp_ok h pp) (hx : zR x) (hy : zR y) (hz : ¬ fp_in h pp x y) : fx_Mx l M_FP_set [.ref 0, .int (zI x), .int (zI y), .int (zI u)] h xIO := by
  obtain ⟨⟨a1, h1⟩, -⟩ := id ok
  refine fx_entryX (ls := [some (.ref 0), some (.int (zI x)), some (.int (zI y)), some (.int (zI u))]) (by decide) (Nat.le_of_ble_eq_true rfl) rfl ?_
  refine fn_aload_n (i := 0) d_FP_set_0 rfl rfl ?_
  refine fn_getR (q := pp) d_FP_set_1 lk_FP_77 (at_0 (h := _) hS) rfl rfl ?_
  refine fn_iload_n (i := 1) d_FP_set_4 rfl rfl ?_
  refine fn_iload_n (i := 2) d_FP_set_5 rfl rfl ?_
  refine fn_callV (M' := M_PI_has) (vs := [.int (zI x), .int (zI y)]) (rest := []) d_FP_set_6 ca_FP_set_95 h1 rfl rfl rfl (Nat.le_of_ble_eq_true rfl) (q_PIhas ok hx hy) (fun r q => ?_)
  rcases q with ⟨q1, q2⟩ | ⟨q1, q2⟩
  · exact absurd q2 hz
  subst q1
  refine fn_if_ne (t := 20) (n := 12) d_FP_set_9 (show zR 0 by decide) (fun z => absurd rfl z) (fun _ => ?_)
  exact xt_IO htl rfl d_FP_set_12 d_FP_set_15 d_FP_set_16 d_FP_set_19 (by decide) (by decide)
theorem x_set2 {x y u : Int} (htl : l.stackTraces = false) (hS : h.1 = fx_S0 a pp dd) (ok : fp_ok h pp) (hx : zR x) (hy : zR y) (hu : zR u) (hz : fp_in h pp x y) (hz2 : ¬ (0 ≤ u ∧ u ≤ if h.2.1 pp 1 = 0 then 1 else 255)) : fx_Mx l M_FP_set [.ref 0, .int (zI x), .int (zI y), .int (zI u)] h xIA := by
  obtain ⟨⟨a1, h1⟩, -, hg, -⟩ := id ok
  refine fx_entryX (ls := [some (.ref 0), some (.int (zI x)), some (.int (zI y)), some (.int (zI u))]) (by decide) (Nat.le_of_ble_eq_true rfl) rfl ?_
  refine fn_aload_n (i := 0) d_FP_set_0 rfl rfl ?_
  refine fn_getR (q := pp) d_FP_set_1 lk_FP_77 (at_0 (h := _) hS) rfl rfl ?_
  refine fn_iload_n (i := 1) d_FP_set_4 rfl rfl ?_
  refine fn_iload_n (i := 2) d_FP_set_5 rfl rfl ?_
  refine fn_callV (M' := M_PI_has) (vs := [.int (zI x), .int (zI y)]) (rest := []) d_FP_set_6 ca_FP_set_95 h1 rfl rfl rfl (Nat.le_of_ble_eq_true rfl) (q_PIhas ok hx hy) (fun r q => ?_)
  rcases q with ⟨q1, q2⟩ | ⟨q1, q2⟩
  rotate_left
  · exact absurd hz q2
  subst q1
  refine fn_if_ne (t := 20) (n := 12) d_FP_set_9 (show zR 1 by decide) (fun _ => ?_) (fun z => absurd z (by decide))
  refine fn_iload_n (i := 3) d_FP_set_20 rfl rfl ?_
  refine fn_if_lt (t := 45) (n := 24) d_FP_set_21 hu (fun _ => ?_) (fun z7 => ?_)
  · exact xt_IA htl rfl d_FP_set_45 d_FP_set_48 d_FP_set_49 d_FP_set_52 (by decide) (by decide)
  refine fn_iload_n (i := 3) d_FP_set_24 rfl rfl ?_
  refine fn_aload_n (i := 0) d_FP_set_25 rfl rfl ?_
  refine fn_getR (q := pp) d_FP_set_26 lk_FP_77 (at_0 (h := _) hS) rfl rfl ?_
  refine fn_getI d_FP_set_29 lk_FP_102 h1 rfl ?_
  refine fn_if_eq (t := 41) (n := 35) d_FP_set_32 (by rcases hg with e | e <;> rw [e] <;> decide) (fun z9 => ?_) (fun z9 => ?_)
  · rw [if_pos z9] at hz2
    refine fn_iconst d_FP_set_41 ?_
    refine fn_icmp_le (t := 53) (n := 45) d_FP_set_42 hu (show zR 1 by decide) (fun z10 => absurd ⟨Int.not_lt.mp z7, z10⟩ hz2) (fun z10 => ?_)
    exact xt_IA htl rfl d_FP_set_45 d_FP_set_48 d_FP_set_49 d_FP_set_52 (by decide) (by decide)
  · rw [if_neg z9] at hz2
    refine fn_sipush (v := 255) d_FP_set_35 rfl ?_
    refine fn_goto (n := 42) d_FP_set_38 ?_
    refine fn_icmp_le (t := 53) (n := 45) d_FP_set_42 hu (show zR 255 by decide) (fun z10 => absurd ⟨Int.not_lt.mp z7, z10⟩ hz2) (fun z10 => ?_)
    exact xt_IA htl rfl d_FP_set_45 d_FP_set_48 d_FP_set_49 d_FP_set_52 (by decide) (by decide)
theorem x_blank {g x y : Int} (htl : l.stackTraces = false) (hS : h.1 = fx_S0 a pp dd) (hg : g = 0 ∨ g = 1) (hx : zR x) (hy : zR y) (hz : ¬ szOK g x y) : fx_Mx l M_FP_blank [.ref 0, .int (zI g), .int (zI x), .int (zI y)] h xIA := by
  refine fx_entryX (ls := [some (.ref 0), some (.int (zI g)), some (.int (zI x)), some (.int (zI y))]) (by decide) (Nat.le_of_ble_eq_true rfl) rfl ?_
  refine fn_iload_n (i := 1) d_FP_blank_0 rfl rfl ?_
  refine fn_iload_n (i := 2) d_FP_blank_1 rfl rfl ?_
  refine fn_i2l d_FP_blank_2 hx ?_
  refine fn_iload_n (i := 3) d_FP_blank_3 rfl rfl ?_
  refine fn_i2l d_FP_blank_4 hy ?_
  refine fn_callS (M' := M_FP_sizeCanBe) (vs := [.int (zI g), .long (zL x), .long (zL y)]) (rest := []) d_FP_blank_5 ca_FP_blank_84 rfl rfl (Nat.le_of_ble_eq_true rfl) (q_sizeCanBe hS hg (by omega) (by omega)) (fun r q => ?_)
  rcases q with ⟨q1, q2⟩ | ⟨q1, q2⟩
  · exact absurd q2 hz
  subst q1
  refine fn_if_ne (t := 19) (n := 11) d_FP_blank_8 (show zR 0 by decide) (fun z => absurd rfl z) (fun _ => ?_)
  exact xt_IA htl rfl d_FP_blank_11 d_FP_blank_14 d_FP_blank_15 d_FP_blank_18 (by decide) (by decide)
abbrev isSch (s : Int) : Prop := s = 1 ∨ s = 32773 ∨ s = 5 ∨ s = 3 ∨ s = 4
theorem x_write1 {s b n : Int} (htl : l.stackTraces = false) (hS : h.1 = fx_S0 a pp dd) (ok : fp_ok h pp) (hs : zR s) (hn : zR n) (hz : ¬ (isSch s ∧ 1 ≤ n ∧ n ≤ h.2.1 pp 3)) : fx_Mx l M_FP_write [.ref 0, .int (zI s), .int (zI b), .int (zI n)] h xIA := by
  obtain ⟨⟨a1, h1⟩, -, -, -, -, hh1, hh2⟩ := id ok
  refine fx_entryX (ls := [some (.ref 0), some (.int (zI s)), some (.int (zI b)), some (.int (zI n)), none]) (by decide) (Nat.le_of_ble_eq_true rfl) rfl ?_
  refine fn_iload_n (i := 1) d_FP_write_0 rfl rfl ?_
  refine fn_i2l d_FP_write_1 hs ?_
  refine fn_callS (M' := M_FP_isScheme) (vs := [.long (zL s)]) (rest := []) d_FP_write_2 ca_FP_write_128 rfl rfl (Nat.le_of_ble_eq_true rfl) (q_isScheme hS (by omega)) (fun r q => ?_)
  rcases q with ⟨q1, q2⟩ | ⟨q1, q2⟩
  rotate_left
  · subst q1
    refine fn_if_eq (t := 24) (n := 8) d_FP_write_5 (show zR 0 by decide) (fun _ => ?_) (fun z => absurd rfl z)
    exact xt_IA htl rfl d_FP_write_24 d_FP_write_27 d_FP_write_28 d_FP_write_31 (by decide) (by decide)
  subst q1
  refine fn_if_eq (t := 24) (n := 8) d_FP_write_5 (show zR 1 by decide) (fun z => absurd z (by decide)) (fun _ => ?_)
  refine fn_iload_n (i := 3) d_FP_write_8 rfl rfl ?_
  refine fn_iconst d_FP_write_9 ?_
  refine fn_icmp_lt (t := 24) (n := 13) d_FP_write_10 hn (show zR 1 by decide) (fun _ => ?_) (fun z8 => ?_)
  · exact xt_IA htl rfl d_FP_write_24 d_FP_write_27 d_FP_write_28 d_FP_write_31 (by decide) (by decide)
  refine fn_iload_n (i := 3) d_FP_write_13 rfl rfl ?_
  refine fn_aload_n (i := 0) d_FP_write_14 rfl rfl ?_
  refine fn_getR (q := pp) d_FP_write_15 lk_FP_77 (at_0 (h := _) hS) rfl rfl ?_
  refine fn_getI d_FP_write_18 lk_FP_118 h1 rfl ?_
  refine fn_icmp_le (t := 32) (n := 24) d_FP_write_21 hn (by omega) (fun z10 => absurd ⟨q2, Int.not_lt.mp z8, z10⟩ hz) (fun _ => ?_)
  exact xt_IA htl rfl d_FP_write_24 d_FP_write_27 d_FP_write_28 d_FP_write_31 (by decide) (by decide)
theorem x_write2 {s b n : Int} (htl : l.stackTraces = false) (hS : h.1 = fx_S0 a pp dd) (ok : fp_ok h pp) (hs : zR s) (hn : zR n) (hz : isSch s ∧ 1 ≤ n ∧ n ≤ h.2.1 pp 3) (hg : h.2.1 pp 1 = 1) (hf : s = 3 ∨ s = 4) : fx_Mx l M_FP_write [.ref 0, .int (zI s), .int (zI b), .int (zI n)] h xIS := by
  obtain ⟨⟨a1, h1⟩, -, -, -, -, hh1, hh2⟩ := id ok
  refine fx_entryX (ls := [some (.ref 0), some (.int (zI s)), some (.int (zI b)), some (.int (zI n)), none]) (by decide) (Nat.le_of_ble_eq_true rfl) rfl ?_
  refine fn_iload_n (i := 1) d_FP_write_0 rfl rfl ?_
  refine fn_i2l d_FP_write_1 hs ?_
  refine fn_callS (M' := M_FP_isScheme) (vs := [.long (zL s)]) (rest := []) d_FP_write_2 ca_FP_write_128 rfl rfl (Nat.le_of_ble_eq_true rfl) (q_isScheme hS (by omega)) (fun r q => ?_)
  rcases q with ⟨q1, q2⟩ | ⟨q1, q2⟩
  rotate_left
  · exact absurd hz.1 q2
  subst q1
  refine fn_if_eq (t := 24) (n := 8) d_FP_write_5 (show zR 1 by decide) (fun z => absurd z (by decide)) (fun _ => ?_)
  refine fn_iload_n (i := 3) d_FP_write_8 rfl rfl ?_
  refine fn_iconst d_FP_write_9 ?_
  refine fn_icmp_lt (t := 24) (n := 13) d_FP_write_10 hn (show zR 1 by decide) (fun z => absurd hz.2.1 (by omega)) (fun z8 => ?_)
  refine fn_iload_n (i := 3) d_FP_write_13 rfl rfl ?_
  refine fn_aload_n (i := 0) d_FP_write_14 rfl rfl ?_
  refine fn_getR (q := pp) d_FP_write_15 lk_FP_77 (at_0 (h := _) hS) rfl rfl ?_
  refine fn_getI d_FP_write_18 lk_FP_118 h1 rfl ?_
  refine fn_icmp_le (t := 32) (n := 24) d_FP_write_21 hn (by omega) (fun _ => ?_) (fun z => absurd hz.2.2 z)
  refine fn_aload_n (i := 0) d_FP_write_32 rfl rfl ?_
  refine fn_getR (q := pp) d_FP_write_33 lk_FP_77 (at_0 (h := _) hS) rfl rfl ?_
  refine fn_getI d_FP_write_36 lk_FP_102 h1 rfl ?_
  rw [hg]
  refine fn_if_eq (t := 58) (n := 42) d_FP_write_39 (show zR 1 by decide) (fun z => absurd z (by decide)) (fun _ => ?_)
  refine fn_iload_n (i := 1) d_FP_write_42 rfl rfl ?_
  refine fn_i2l d_FP_write_43 hs ?_
  refine fn_callS (M' := M_FP_isFax) (vs := [.long (zL s)]) (rest := []) d_FP_write_44 ca_FP_write_132 rfl rfl (Nat.le_of_ble_eq_true rfl) (q_isFax hS (by omega)) (fun r q => ?_)
  rcases q with ⟨q1, q2⟩ | ⟨q1, q2⟩
  rotate_left
  · exact absurd hf q2
  subst q1
  refine fn_if_eq (t := 58) (n := 50) d_FP_write_47 (show zR 1 by decide) (fun z => absurd z (by decide)) (fun _ => ?_)
  exact xt_IS htl rfl d_FP_write_50 d_FP_write_53 d_FP_write_54 d_FP_write_57 (by decide) (by decide)
end XT
