/-! the law's own calls of the class -/
theorem fn_aload {l : Launch} {M : fx_M} {B : Nat × Nat} {Q : fx_EE} {pc n : Nat} {ls : List (Option Value)} {rest : List Value} {h : fx_H} {i x : Nat} (d : decode M.2.1 pc = .ok (.aload i, 2)) (hx : ls[i]? = some (some (.ref x))) (k : fx_N l M B Q n ls (.ref x :: rest) h) (hn : pc + 2 = n := by rfl) : fx_N l M B Q pc ls rest h := by
  subst hn
  intro p e R s m args below meth c A D g tb S0 QQ hX hE la hP hL
  exact lv_aload hX.1 hX.2.1 d (hL.2.2 i (.ref x) hx) (k p e R s m args below meth c A D g tb S0 QQ hX hE la hP hL)
theorem cl_13 : Cond.classLink "FaxPagesLaw" 13 "java/lang/IllegalArgumentException" ∈ fx_tb := fx_in 619 (by decide +kernel) rfl
theorem cl_19 : Cond.classLink "FaxPagesLaw" 19 "java/lang/IndexOutOfBoundsException" ∈ fx_tb := fx_in 691 (by decide +kernel) rfl
theorem cl_25 : Cond.classLink "FaxPagesLaw" 25 "java/lang/IllegalStateException" ∈ fx_tb := fx_in 715 (by decide +kernel) rfl
theorem ct_IA : Cond.castable "java/lang/IllegalArgumentException" "java/lang/IllegalArgumentException" ∈ fx_xw := fx_ix 627 (by decide +kernel) rfl
theorem ct_IO : Cond.castable "java/lang/IndexOutOfBoundsException" "java/lang/IndexOutOfBoundsException" ∈ fx_xw := fx_ix 698 (by decide +kernel) rfl
theorem ct_IS : Cond.castable "java/lang/IllegalStateException" "java/lang/IllegalStateException" ∈ fx_xw := fx_ix 723 (by decide +kernel) rfl
theorem lw_blank : Cond.methodLink "FaxPagesLaw" 7 M_FP_blank.1 ∈ fx_tb := fx_in 620 (by decide +kernel) rfl
theorem cb_blank : fx_cB M_LW_blank M_FP_blank 3 := ⟨k_FP_blank, i_FP, p_FP_blank, by decide, by decide⟩
theorem cv_blank : fx_cV M_LW_blank M_FP_blank 7 3 := ⟨cb_blank, v_FP_blank, s_FP_blank, Or.inl lw_blank⟩
theorem lw_set : Cond.methodLink "FaxPagesLaw" 15 M_FP_set.1 ∈ fx_tb := fx_in 692 (by decide +kernel) rfl
theorem cb_set : fx_cB M_LW_set M_FP_set 3 := ⟨k_FP_set, i_FP, p_FP_set, by decide, by decide⟩
theorem cv_set : fx_cV M_LW_set M_FP_set 15 3 := ⟨cb_set, v_FP_set, s_FP_set, Or.inl lw_set⟩
theorem lw_write : Cond.methodLink "FaxPagesLaw" 21 M_FP_write.1 ∈ fx_tb := fx_in 716 (by decide +kernel) rfl
theorem cb_write : fx_cB M_LW_write M_FP_write 3 := ⟨k_FP_write, i_FP, p_FP_write, by decide, by decide⟩
theorem cv_write : fx_cV M_LW_write M_FP_write 21 3 := ⟨cb_write, v_FP_write, s_FP_write, Or.inl lw_write⟩
theorem lw_put : Cond.methodLink "FaxPagesLaw" 27 M_FP_put.1 ∈ fx_tb := fx_in 869 (by decide +kernel) rfl
theorem cb_put : fx_cB M_LW_put M_FP_put 2 := ⟨k_FP_put, i_FP, p_FP_put, by decide, by decide⟩
theorem cv_put : fx_cV M_LW_put M_FP_put 27 2 := ⟨cb_put, v_FP_put, s_FP_put, Or.inl lw_put⟩
theorem lw_cut : Cond.methodLink "FaxPagesLaw" 31 M_FP_cut.1 ∈ fx_tb := fx_in 877 (by decide +kernel) rfl
theorem cb_cut : fx_cB M_LW_cut M_FP_cut 1 := ⟨k_FP_cut, i_FP, p_FP_cut, by decide, by decide⟩
theorem cv_cut : fx_cV M_LW_cut M_FP_cut 31 1 := ⟨cb_cut, v_FP_cut, s_FP_cut, Or.inl lw_cut⟩
abbrev hh_blank : List (Nat × Nat × Nat × Nat) := [(0, 7, 10, 13)]
abbrev hh_set : List (Nat × Nat × Nat × Nat) := [(0, 7, 10, 19), (0, 7, 14, 13)]
abbrev hh_write : List (Nat × Nat × Nat × Nat) := [(0, 12, 15, 13), (0, 12, 19, 25)]
abbrev hh_put : List (Nat × Nat × Nat × Nat) := [(0, 10, 13, 19), (0, 10, 17, 13)]
abbrev hh_cut : List (Nat × Nat × Nat × Nat) := [(0, 9, 12, 13)]
section LWR
variable {l : Launch} {Q : Option Value → fx_H → Prop} {h : fx_H} {a : Nat → Nat} {pp dd : Nat} {g w t : Int} {f : Int → Int → Int} {L : List Int} {K : Int × Int × Int × Int × Int}
theorem lwc_blank {g2 x y : Int} (c : CPs h a pp dd g w t f L K) (htl : l.stackTraces = false) (hg : g2 = 0 ∨ g2 = 1) (hx : zR x) (hy : zR y) (k0 : szOK g2 x y → ∀ h2, sm lo31 h h2 → CPs h2 a pp dd g2 x y (fun _ _ => 0) L K → Q (some (.int (zI 0))) h2) (k1 : ¬ szOK g2 x y → Q (some (.int (zI 1))) h) : fx_MtW l M_LW_blank hh_blank (1, 6) [.ref 0, .int (zI g2), .int (zI x), .int (zI y)] h Q := by
  by_cases s : szOK g2 x y
  · refine fx_entryW (ls := [some (.ref 0), some (.int (zI g2)), some (.int (zI x)), some (.int (zI y)), none]) (by decide) (Nat.le_of_ble_eq_true rfl) rfl ?_
    refine fy_aload_n (i := 0) d_LW_blank_0 rfl rfl ?_
    refine fy_iload_n (i := 1) d_LW_blank_1 rfl rfl ?_
    refine fy_iload_n (i := 2) d_LW_blank_2 rfl rfl ?_
    refine fy_iload_n (i := 3) d_LW_blank_3 rfl rfl ?_
    refine fy_callV (M' := M_FP_blank) (B' := (0, 0)) (vs := [.int (zI g2), .int (zI x), .int (zI y)]) (rest := []) (c1 := 0) (s1 := 0) (n := 7) d_LW_blank_4 cv_blank (at_0 (h := _) c.1) rfl rfl rfl ⟨by decide, by decide⟩ (Nat.le_of_ble_eq_true rfl) (Or.inl rfl) (c_blank c hg hx hy s fun h2 m c2 => ?_)
    refine fy_goto (n := 14) d_LW_blank_7 ?_
    refine fy_iconst d_LW_blank_14 ?_
    exact fy_endW (some (.int (zI 0))) ⟨⟨_, rfl, rfl⟩, d_LW_blank_15⟩ (by decide) (by decide) rfl (k0 s h2 m c2)
  · refine fx_entryN (ls := [some (.ref 0), some (.int (zI g2)), some (.int (zI x)), some (.int (zI y)), none]) (by decide) (Nat.le_of_ble_eq_true rfl) rfl ?_
    refine fn_aload_n (i := 0) d_LW_blank_0 rfl rfl ?_
    refine fn_iload_n (i := 1) d_LW_blank_1 rfl rfl ?_
    refine fn_iload_n (i := 2) d_LW_blank_2 rfl rfl ?_
    refine fn_iload_n (i := 3) d_LW_blank_3 rfl rfl ?_
    exact fn_callX (M' := M_FP_blank) (X := xIA) (pre := []) (post := []) (x := (0, 7, 10, 13)) (vs := [.int (zI g2), .int (zI x), .int (zI y)]) (rest := []) (i := 4) (hp2 := 12) d_LW_blank_4 cb_blank v_FP_blank s_FP_blank lw_blank (at_0 (h := _) c.1) rfl rfl rfl (Nat.le_of_ble_eq_true rfl) (x_blank htl c.1 hg hx hy s) rfl (fun y hy => absurd hy (by simp)) ⟨by decide, by decide⟩ (by decide) cl_13 ct_IA (Or.inl ⟨d_LW_blank_10, rfl⟩) (by decide) d_LW_blank_12 ⟨⟨_, rfl, rfl⟩, d_LW_blank_13⟩ (k1 s)
theorem lwc_set {x y u : Int} (c : CPs h a pp dd g w t f L K) (htl : l.stackTraces = false) (hx : zR x) (hy : zR y) (hu : zR u) (k0 : (0 ≤ x ∧ x < w ∧ 0 ≤ y ∧ y < t) ∧ pvO g u → ∀ h2, sm lo31 h h2 → CPs h2 a pp dd g w t (setF f x y u) L K → Q (some (.int (zI 0))) h2) (k1 : ¬ (0 ≤ x ∧ x < w ∧ 0 ≤ y ∧ y < t) → Q (some (.int (zI 1))) h) (k2 : (0 ≤ x ∧ x < w ∧ 0 ≤ y ∧ y < t) ∧ ¬ pvO g u → Q (some (.int (zI 2))) h) : fx_MtW l M_LW_set hh_set (1, 6) [.ref 0, .int (zI x), .int (zI y), .int (zI u)] h Q := by
  have cp := c.2.2.2.2.2.1
  have ein : fp_in h pp x y ↔ (0 ≤ x ∧ x < w ∧ 0 ≤ y ∧ y < t) := by unfold fp_in; rw [cp.2.2.2.2.1, cp.2.2.2.2.2.1]
  by_cases s1 : 0 ≤ x ∧ x < w ∧ 0 ≤ y ∧ y < t
  rotate_left
  · refine fx_entryN (ls := [some (.ref 0), some (.int (zI x)), some (.int (zI y)), some (.int (zI u)), none]) (by decide) (Nat.le_of_ble_eq_true rfl) rfl ?_
    refine fn_aload_n (i := 0) d_LW_set_0 rfl rfl ?_
    refine fn_iload_n (i := 1) d_LW_set_1 rfl rfl ?_
    refine fn_iload_n (i := 2) d_LW_set_2 rfl rfl ?_
    refine fn_iload_n (i := 3) d_LW_set_3 rfl rfl ?_
    exact fn_callX (M' := M_FP_set) (X := xIO) (pre := []) (post := [(0, 7, 14, 13)]) (x := (0, 7, 10, 19)) (vs := [.int (zI x), .int (zI y), .int (zI u)]) (rest := []) (i := 4) (hp2 := 12) d_LW_set_4 cb_set v_FP_set s_FP_set lw_set (at_0 (h := _) c.1) rfl rfl rfl (Nat.le_of_ble_eq_true rfl) (x_set1 htl c.1 cp.1 hx hy (fun z => s1 (ein.mp z))) rfl (fun y hy => absurd hy (by simp)) ⟨by decide, by decide⟩ (by decide) cl_19 ct_IO (Or.inl ⟨d_LW_set_10, rfl⟩) (by decide) d_LW_set_12 ⟨⟨_, rfl, rfl⟩, d_LW_set_13⟩ (k1 s1)
  by_cases s2 : pvO g u
  · refine fx_entryW (ls := [some (.ref 0), some (.int (zI x)), some (.int (zI y)), some (.int (zI u)), none]) (by decide) (Nat.le_of_ble_eq_true rfl) rfl ?_
    refine fy_aload_n (i := 0) d_LW_set_0 rfl rfl ?_
    refine fy_iload_n (i := 1) d_LW_set_1 rfl rfl ?_
    refine fy_iload_n (i := 2) d_LW_set_2 rfl rfl ?_
    refine fy_iload_n (i := 3) d_LW_set_3 rfl rfl ?_
    refine fy_callV (M' := M_FP_set) (B' := (0, 0)) (vs := [.int (zI x), .int (zI y), .int (zI u)]) (rest := []) (c1 := 0) (s1 := 0) (n := 7) d_LW_set_4 cv_set (at_0 (h := _) c.1) rfl rfl rfl ⟨by decide, by decide⟩ (Nat.le_of_ble_eq_true rfl) (Or.inl rfl) (c_set c hx hy hu s1 s2 fun h2 m c2 => ?_)
    refine fy_goto (n := 18) d_LW_set_7 ?_
    refine fy_iconst d_LW_set_18 ?_
    exact fy_endW (some (.int (zI 0))) ⟨⟨_, rfl, rfl⟩, d_LW_set_19⟩ (by decide) (by decide) rfl (k0 ⟨s1, s2⟩ h2 m c2)
  · refine fx_entryN (ls := [some (.ref 0), some (.int (zI x)), some (.int (zI y)), some (.int (zI u)), none]) (by decide) (Nat.le_of_ble_eq_true rfl) rfl ?_
    refine fn_aload_n (i := 0) d_LW_set_0 rfl rfl ?_
    refine fn_iload_n (i := 1) d_LW_set_1 rfl rfl ?_
    refine fn_iload_n (i := 2) d_LW_set_2 rfl rfl ?_
    refine fn_iload_n (i := 3) d_LW_set_3 rfl rfl ?_
    exact fn_callX (M' := M_FP_set) (X := xIA) (pre := [(0, 7, 10, 19)]) (post := []) (x := (0, 7, 14, 13)) (vs := [.int (zI x), .int (zI y), .int (zI u)]) (rest := []) (i := 4) (hp2 := 16) d_LW_set_4 cb_set v_FP_set s_FP_set lw_set (at_0 (h := _) c.1) rfl rfl rfl (Nat.le_of_ble_eq_true rfl) (x_set2 htl c.1 cp.1 hx hy hu (ein.mpr s1) (by rw [cp.2.2.2.1]; exact s2)) rfl (fun y hy => by rcases List.mem_singleton.mp hy with rfl; exact ⟨by decide, _, cl_19, by decide⟩) ⟨by decide, by decide⟩ (by decide) cl_13 ct_IA (Or.inl ⟨d_LW_set_14, rfl⟩) (by decide) d_LW_set_16 ⟨⟨_, rfl, rfl⟩, d_LW_set_17⟩ (k2 ⟨s1, s2⟩)
theorem lwc_put {x y : Int} (c : CPs h a pp dd g w t f L K) (htl : l.stackTraces = false) (hx : zR x) (hy : zR y) (k0 : (0 ≤ x ∧ x < L.length) ∧ (0 ≤ y ∧ y < 256) → ∀ h2, sm (fun j => j = 1 ∨ j = 2) h h2 → CPs h2 a pp dd g w t f (putO L x y) K → Q (some (.int (zI 0))) (fx_uL h2 47 0 (bya L x))) (k1 : ¬ (0 ≤ x ∧ x < L.length) → Q (some (.int (zI 1))) h) (k2 : (0 ≤ x ∧ x < L.length) ∧ ¬ (0 ≤ y ∧ y < 256) → Q (some (.int (zI 2))) h) : fx_MtW l M_LW_put hh_put (1, 6) [.ref 0, .int (zI x), .int (zI y), .ref 47] h Q := by
  obtain ⟨b, c5⟩ := c.2.2.2.2.1
  by_cases s1 : 0 ≤ x ∧ x < L.length
  rotate_left
  · refine fx_entryN (ls := [some (.ref 0), some (.int (zI x)), some (.int (zI y)), some (.ref 47), none]) (by decide) (Nat.le_of_ble_eq_true rfl) rfl ?_
    refine fn_aload_n (i := 3) d_LW_put_0 rfl rfl ?_
    refine fn_iconst d_LW_put_1 ?_
    refine fn_aload_n (i := 0) d_LW_put_2 rfl rfl ?_
    refine fn_iload_n (i := 1) d_LW_put_3 rfl rfl ?_
    refine fn_iload_n (i := 2) d_LW_put_4 rfl rfl ?_
    exact fn_callX (M' := M_FP_put) (X := xIO) (pre := []) (post := [(0, 10, 17, 13)]) (x := (0, 10, 13, 19)) (vs := [.int (zI x), .int (zI y)]) (rest := [.int (zI 0), .ref 47]) (i := 4) (hp2 := 15) d_LW_put_5 cb_put v_FP_put s_FP_put lw_put (at_0 (h := _) c.1) rfl rfl rfl (Nat.le_of_ble_eq_true rfl) (x_put1 htl c.1 c5 hx s1) rfl (fun y hy => absurd hy (by simp)) ⟨by decide, by decide⟩ (by decide) cl_19 ct_IO (Or.inl ⟨d_LW_put_13, rfl⟩) (by decide) d_LW_put_15 ⟨⟨_, rfl, rfl⟩, d_LW_put_16⟩ (k1 s1)
  by_cases s2 : 0 ≤ y ∧ y < 256
  · refine fx_entryW (ls := [some (.ref 0), some (.int (zI x)), some (.int (zI y)), some (.ref 47), none]) (by decide) (Nat.le_of_ble_eq_true rfl) rfl ?_
    refine fy_aload_n (i := 3) d_LW_put_0 rfl rfl ?_
    refine fy_iconst d_LW_put_1 ?_
    refine fy_aload_n (i := 0) d_LW_put_2 rfl rfl ?_
    refine fy_iload_n (i := 1) d_LW_put_3 rfl rfl ?_
    refine fy_iload_n (i := 2) d_LW_put_4 rfl rfl ?_
    refine fy_callV (M' := M_FP_put) (B' := (0, 0)) (vs := [.int (zI x), .int (zI y)]) (rest := [.int (zI 0), .ref 47]) (c1 := 0) (s1 := 0) (n := 8) d_LW_put_5 cv_put (at_0 (h := _) c.1) rfl rfl rfl ⟨by decide, by decide⟩ (Nat.le_of_ble_eq_true rfl) (Or.inl rfl) (c_put c s1 s2 fun h2 m c2 => ?_)
    refine fy_i2l d_LW_put_8 (by have := bya_R c5.2.2.2.2 x; omega) ?_
    refine fy_last (n0 := 1) d_LW_put_9 (at_47 (h := _) c2.1) (by decide) (by decide) (by decide) ?_
    refine fy_goto (n := 21) d_LW_put_10 ?_
    refine fy_iconst d_LW_put_21 ?_
    exact fy_endW (some (.int (zI 0))) ⟨⟨_, rfl, rfl⟩, d_LW_put_22⟩ (by decide) (by decide) rfl (k0 ⟨s1, s2⟩ h2 m c2)
  · refine fx_entryN (ls := [some (.ref 0), some (.int (zI x)), some (.int (zI y)), some (.ref 47), none]) (by decide) (Nat.le_of_ble_eq_true rfl) rfl ?_
    refine fn_aload_n (i := 3) d_LW_put_0 rfl rfl ?_
    refine fn_iconst d_LW_put_1 ?_
    refine fn_aload_n (i := 0) d_LW_put_2 rfl rfl ?_
    refine fn_iload_n (i := 1) d_LW_put_3 rfl rfl ?_
    refine fn_iload_n (i := 2) d_LW_put_4 rfl rfl ?_
    exact fn_callX (M' := M_FP_put) (X := xIA) (pre := [(0, 10, 13, 19)]) (post := []) (x := (0, 10, 17, 13)) (vs := [.int (zI x), .int (zI y)]) (rest := [.int (zI 0), .ref 47]) (i := 4) (hp2 := 19) d_LW_put_5 cb_put v_FP_put s_FP_put lw_put (at_0 (h := _) c.1) rfl rfl rfl (Nat.le_of_ble_eq_true rfl) (x_put2 htl c.1 c5 hx hy s1 s2) rfl (fun y hy => by rcases List.mem_singleton.mp hy with rfl; exact ⟨by decide, _, cl_19, by decide⟩) ⟨by decide, by decide⟩ (by decide) cl_13 ct_IA (Or.inl ⟨d_LW_put_17, rfl⟩) (by decide) d_LW_put_19 ⟨⟨_, rfl, rfl⟩, d_LW_put_20⟩ (k2 ⟨s1, s2⟩)
theorem lwc_cut {x : Int} (c : CPs h a pp dd g w t f L K) (htl : l.stackTraces = false) (hx : zR x) (k0 : 0 ≤ x → ∀ h2, sm (fun j => j = 1 ∨ j = 2) h h2 → CPs h2 a pp dd g w t f (L.take x.toNat) K → Q (some (.int (zI 0))) (fx_uL h2 47 0 ((L.length : Int) - (L.take x.toNat).length))) (k1 : x < 0 → Q (some (.int (zI 1))) h) : fx_MtW l M_LW_cut hh_cut (1, 6) [.ref 0, .int (zI x), .ref 47] h Q := by
  obtain ⟨b, c5⟩ := c.2.2.2.2.1
  have hl := c5.2.2.2.1
  by_cases s1 : 0 ≤ x
  · refine fx_entryW (ls := [some (.ref 0), some (.int (zI x)), some (.ref 47), none]) (by decide) (Nat.le_of_ble_eq_true rfl) rfl ?_
    refine fy_aload_n (i := 2) d_LW_cut_0 rfl rfl ?_
    refine fy_iconst d_LW_cut_1 ?_
    refine fy_aload_n (i := 0) d_LW_cut_2 rfl rfl ?_
    refine fy_iload_n (i := 1) d_LW_cut_3 rfl rfl ?_
    refine fy_callV (M' := M_FP_cut) (B' := (0, 0)) (vs := [.int (zI x)]) (rest := [.int (zI 0), .ref 47]) (c1 := 0) (s1 := 0) (n := 7) d_LW_cut_4 cv_cut (at_0 (h := _) c.1) rfl rfl rfl ⟨by decide, by decide⟩ (Nat.le_of_ble_eq_true rfl) (Or.inl rfl) (c_cut c hx s1 fun h2 m c2 => ?_)
    refine fy_i2l d_LW_cut_7 (by have := List.length_take_le x.toNat L; omega) ?_
    refine fy_last (n0 := 1) d_LW_cut_8 (at_47 (h := _) c2.1) (by decide) (by decide) (by decide) ?_
    refine fy_goto (n := 15) d_LW_cut_9 ?_
    refine fy_iconst d_LW_cut_15 ?_
    exact fy_endW (some (.int (zI 0))) ⟨⟨_, rfl, rfl⟩, d_LW_cut_16⟩ (by decide) (by decide) rfl (k0 s1 h2 m c2)
  · refine fx_entryN (ls := [some (.ref 0), some (.int (zI x)), some (.ref 47), none]) (by decide) (Nat.le_of_ble_eq_true rfl) rfl ?_
    refine fn_aload_n (i := 2) d_LW_cut_0 rfl rfl ?_
    refine fn_iconst d_LW_cut_1 ?_
    refine fn_aload_n (i := 0) d_LW_cut_2 rfl rfl ?_
    refine fn_iload_n (i := 1) d_LW_cut_3 rfl rfl ?_
    exact fn_callX (M' := M_FP_cut) (X := xIA) (pre := []) (post := []) (x := (0, 9, 12, 13)) (vs := [.int (zI x)]) (rest := [.int (zI 0), .ref 47]) (i := 3) (hp2 := 13) d_LW_cut_4 cb_cut v_FP_cut s_FP_cut lw_cut (at_0 (h := _) c.1) rfl rfl rfl (Nat.le_of_ble_eq_true rfl) (x_cut htl hx (by omega)) rfl (fun y hy => absurd hy (by simp)) ⟨by decide, by decide⟩ (by decide) cl_13 ct_IA (Or.inr ⟨3, d_LW_cut_12, rfl, rfl⟩) (by decide) d_LW_cut_13 ⟨⟨_, rfl, rfl⟩, d_LW_cut_14⟩ (k1 (by omega))
theorem lwc_write {s b rows : Int} (c : CPs h a pp dd g w t f L K) (htl : l.stackTraces = false) (hs : zR s) (hr : zR rows) (hb : b = 0 ∨ b = 1) (k0 : wrO t s rows → ¬ ((s = 3 ∨ s = 4) ∧ g = 1) → (wfile b s g w t f rows (wrM t rows)).length ≤ 2000 → ∀ h2, sm lo31 h h2 → CPs h2 a pp dd g w t f (wfile b s g w t f rows (wrM t rows)) (1, s, b, rows, (wrM t rows : Nat)) → Q (some (.int (zI 0))) (fx_uL h2 47 0 (wfile b s g w t f rows (wrM t rows)).length)) (k1 : ¬ wrO t s rows → Q (some (.int (zI 1))) h) (k2 : wrO t s rows → (s = 3 ∨ s = 4) ∧ g = 1 → Q (some (.int (zI 2))) h) : fx_MtW l M_LW_write hh_write (1, 6) [.ref 0, .int (zI s), .int (zI b), .int (zI rows), .ref 47] h Q := by
  have cp := c.2.2.2.2.2.1
  have et : h.2.1 pp 3 = t := cp.2.2.2.2.2.1
  by_cases s1 : wrO t s rows
  rotate_left
  · refine fx_entryN (ls := [some (.ref 0), some (.int (zI s)), some (.int (zI b)), some (.int (zI rows)), some (.ref 47), none]) (by decide) (Nat.le_of_ble_eq_true rfl) rfl ?_
    refine fn_aload (i := 4) d_LW_write_0 rfl ?_
    refine fn_iconst d_LW_write_2 ?_
    refine fn_aload_n (i := 0) d_LW_write_3 rfl rfl ?_
    refine fn_iload_n (i := 1) d_LW_write_4 rfl rfl ?_
    refine fn_iload_n (i := 2) d_LW_write_5 rfl rfl ?_
    refine fn_iload_n (i := 3) d_LW_write_6 rfl rfl ?_
    exact fn_callX (M' := M_FP_write) (X := xIA) (pre := []) (post := [(0, 12, 19, 25)]) (x := (0, 12, 15, 13)) (vs := [.int (zI s), .int (zI b), .int (zI rows)]) (rest := [.int (zI 0), .ref 47]) (i := 5) (hp2 := 17) d_LW_write_7 cb_write v_FP_write s_FP_write lw_write (at_0 (h := _) c.1) rfl rfl rfl (Nat.le_of_ble_eq_true rfl) (x_write1 htl c.1 cp.1 hs hr (by rw [et]; exact s1)) rfl (fun y hy => absurd hy (by simp)) ⟨by decide, by decide⟩ (by decide) cl_13 ct_IA (Or.inl ⟨d_LW_write_15, rfl⟩) (by decide) d_LW_write_17 ⟨⟨_, rfl, rfl⟩, d_LW_write_18⟩ (k1 s1)
  by_cases s2 : (s = 3 ∨ s = 4) ∧ g = 1
  rotate_left
  · refine fx_entryW (ls := [some (.ref 0), some (.int (zI s)), some (.int (zI b)), some (.int (zI rows)), some (.ref 47), none]) (by decide) (Nat.le_of_ble_eq_true rfl) rfl ?_
    refine fy_aload (i := 4) d_LW_write_0 rfl ?_
    refine fy_iconst d_LW_write_2 ?_
    refine fy_aload_n (i := 0) d_LW_write_3 rfl rfl ?_
    refine fy_iload_n (i := 1) d_LW_write_4 rfl rfl ?_
    refine fy_iload_n (i := 2) d_LW_write_5 rfl rfl ?_
    refine fy_iload_n (i := 3) d_LW_write_6 rfl rfl ?_
    refine fy_callV (M' := M_FP_write) (B' := (0, 0)) (vs := [.int (zI s), .int (zI b), .int (zI rows)]) (rest := [.int (zI 0), .ref 47]) (c1 := 0) (s1 := 0) (n := 10) d_LW_write_7 cv_write (at_0 (h := _) c.1) rfl rfl rfl ⟨by decide, by decide⟩ (Nat.le_of_ble_eq_true rfl) (Or.inl rfl) (c_write c s1 s2 hb fun h2 m c2 => ?_)
    obtain ⟨b9, c9⟩ := c2.2.2.2.2.1
    have hl2 := c9.2.2.2.1
    refine fy_i2l d_LW_write_10 (by omega) ?_
    refine fy_last (n0 := 1) d_LW_write_11 (at_47 (h := _) c2.1) (by decide) (by decide) (by decide) ?_
    refine fy_goto (n := 23) d_LW_write_12 ?_
    refine fy_iconst d_LW_write_23 ?_
    exact fy_endW (some (.int (zI 0))) ⟨⟨_, rfl, rfl⟩, d_LW_write_24⟩ (by decide) (by decide) rfl (k0 s1 s2 hl2 h2 m c2)
  · refine fx_entryN (ls := [some (.ref 0), some (.int (zI s)), some (.int (zI b)), some (.int (zI rows)), some (.ref 47), none]) (by decide) (Nat.le_of_ble_eq_true rfl) rfl ?_
    refine fn_aload (i := 4) d_LW_write_0 rfl ?_
    refine fn_iconst d_LW_write_2 ?_
    refine fn_aload_n (i := 0) d_LW_write_3 rfl rfl ?_
    refine fn_iload_n (i := 1) d_LW_write_4 rfl rfl ?_
    refine fn_iload_n (i := 2) d_LW_write_5 rfl rfl ?_
    refine fn_iload_n (i := 3) d_LW_write_6 rfl rfl ?_
    exact fn_callX (M' := M_FP_write) (X := xIS) (pre := [(0, 12, 15, 13)]) (post := []) (x := (0, 12, 19, 25)) (vs := [.int (zI s), .int (zI b), .int (zI rows)]) (rest := [.int (zI 0), .ref 47]) (i := 5) (hp2 := 21) d_LW_write_7 cb_write v_FP_write s_FP_write lw_write (at_0 (h := _) c.1) rfl rfl rfl (Nat.le_of_ble_eq_true rfl) (x_write2 htl c.1 cp.1 hs hr (by rw [et]; exact s1) (cp.2.2.2.1.trans s2.2) s2.1) rfl (fun y hy => by rcases List.mem_singleton.mp hy with rfl; exact ⟨by decide, _, cl_13, by decide⟩) ⟨by decide, by decide⟩ (by decide) cl_25 ct_IS (Or.inl ⟨d_LW_write_19, rfl⟩) (by decide) d_LW_write_21 ⟨⟨_, rfl, rfl⟩, d_LW_write_22⟩ (k2 s1 s2)
end LWR
