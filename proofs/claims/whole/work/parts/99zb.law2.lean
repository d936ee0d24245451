/-! the law's cases -/
abbrev LB : Nat × Nat := (601024, 7293034)
def bo (x : Int) : Int := if x = 0 then 0 else 1
theorem bo_01 (x : Int) : bo x = 0 ∨ bo x = 1 := by unfold bo; split <;> simp
theorem uL_at {h : fx_H} {p k : Nat} {v : Int} : (fx_uL h p k v).2.2.2 p k = v := if_pos ⟨rfl, rfl⟩
theorem CPs.uL {h : fx_H} {a : Nat → Nat} {pp dd : Nat} {g w t : Int} {f : Int → Int → Int} {L : List Int} {K : Int × Int × Int × Int × Int} {p k : Nat} (v : Int) (c : CPs h a pp dd g w t f L K) : CPs (fx_uL h p k v) a pp dd g w t f L K := c
theorem MPs.uL {h : fx_H} {g w t : Int} {f : Int → Int → Int} {L : List Int} {K : Int × Int × Int × Int × Int} {p k : Nat} (v : Int) (c : MPs h g w t f L K) : MPs (fx_uL h p k v) g w t f L K := c
section LWB
variable {l : Launch} {M : fx_M} {B : Nat × Nat} {Q : fx_EE} {c0 s0 pc n tt nB : Nat} {ls : List (Option Value)} {rest : List Value} {h : fx_H}
theorem fl_same {x : Int32} {off : Int} (d : decode M.2.1 pc = .ok (.if_icmp .eq off, 3)) (k : fx_U l M B Q c0 s0 tt ls rest h) (ht : (pc : Int) + off = (tt : Int) := by rfl) : fx_U l M B Q c0 s0 pc ls (.int x :: .int x :: rest) h := by
  intro p e R s m args below meth c A D g tb S0 QQ hX hE H locs la hP hS hG hL
  exact lv_icmp_eq hX.1 hX.2.1 d ht (fun _ => k p e R s m args below meth c A D g tb S0 QQ hX hE H locs la hP hS hG hL) (fun z => absurd rfl z)
theorem fl_bool {x : Int} {o1 o2 : Int} (hx : zR x) (d1 : decode M.2.1 pc = .ok (.ifCond .eq o1, 3)) (d2 : decode M.2.1 (pc + 3) = .ok (.iconst 1, 1)) (d3 : decode M.2.1 (pc + 4) = .ok (.goto o2, 3)) (d4 : decode M.2.1 tt = .ok (.iconst 0, 1)) (k : fx_U l M B Q c0 s0 nB ls (.int (zI (bo x)) :: rest) h) (h1 : (pc : Int) + o1 = (tt : Int) := by rfl) (h2 : ((pc + 4 : Nat) : Int) + o2 = (nB : Int) := by rfl) (h3 : tt + 1 = nB := by rfl) : fx_U l M B Q c0 s0 pc ls (.int (zI x) :: rest) h := by
  refine fy_if_eq (t := tt) (n := pc + 3) d1 hx (fun z => ?_) (fun z => ?_) h1 rfl
  · refine fy_iconst d4 ?_ h3
    rw [show bo x = 0 from if_pos z] at k
    exact k
  · refine fy_iconst (n := pc + 4) d2 ?_ rfl
    rw [show bo x = 1 from if_neg z] at k
    exact fy_goto d3 k h2
end LWB
theorem cy_FP_get : fx_cV M_LW_law M_FP_get 53 2 := ⟨⟨k_FP_get, i_FP, p_FP_get, by decide, by decide⟩, v_FP_get, s_FP_get, Or.inl (fx_in 311 (by decide +kernel) rfl)⟩
theorem cy_FP_info : fx_cV M_LW_law M_FP_info 57 1 := ⟨⟨k_FP_info, i_FP, p_FP_info, by decide, by decide⟩, v_FP_info, s_FP_info, Or.inl (fx_in 324 (by decide +kernel) rfl)⟩
theorem cy_FP_read : fx_cV M_LW_law M_FP_read 65 0 := ⟨⟨k_FP_read, i_FP, p_FP_read, by decide, by decide⟩, v_FP_read, s_FP_read, Or.inl (fx_in 332 (by decide +kernel) rfl)⟩
theorem cy_FP_size : fx_cV M_LW_law M_FP_size 69 0 := ⟨⟨k_FP_size, i_FP, p_FP_size, by decide, by decide⟩, v_FP_size, s_FP_size, Or.inl (fx_in 592 (by decide +kernel) rfl)⟩
theorem cy_FP_at : fx_cV M_LW_law M_FP_at 73 1 := ⟨⟨k_FP_at, i_FP, p_FP_at, by decide, by decide⟩, v_FP_at, s_FP_at, Or.inl (fx_in 596 (by decide +kernel) rfl)⟩
theorem cy_FP_add : fx_cV M_LW_law M_FP_add 81 1 := ⟨⟨k_FP_add, i_FP, p_FP_add, by decide, by decide⟩, v_FP_add, s_FP_add, Or.inl (fx_in 605 (by decide +kernel) rfl)⟩
theorem cy_MO_blank : fx_cV M_LW_law M_MO_blank 44 3 := ⟨⟨k_MO_blank, i_MO, p_MO_blank, by decide, by decide⟩, v_MO_blank, s_MO_blank, Or.inl (fx_in 1014 (by decide +kernel) rfl)⟩
theorem cy_MO_set : fx_cV M_LW_law M_MO_set 52 3 := ⟨⟨k_MO_set, i_MO, p_MO_set, by decide, by decide⟩, v_MO_set, s_MO_set, Or.inl (fx_in 1028 (by decide +kernel) rfl)⟩
theorem cy_MO_get : fx_cV M_LW_law M_MO_get 56 2 := ⟨⟨k_MO_get, i_MO, p_MO_get, by decide, by decide⟩, v_MO_get, s_MO_get, Or.inl (fx_in 1036 (by decide +kernel) rfl)⟩
theorem cy_MO_info : fx_cV M_LW_law M_MO_info 60 1 := ⟨⟨k_MO_info, i_MO, p_MO_info, by decide, by decide⟩, v_MO_info, s_MO_info, Or.inl (fx_in 1040 (by decide +kernel) rfl)⟩
theorem cy_MO_write : fx_cV M_LW_law M_MO_write 64 3 := ⟨⟨k_MO_write, i_MO, p_MO_write, by decide, by decide⟩, v_MO_write, s_MO_write, Or.inl (fx_in 1044 (by decide +kernel) rfl)⟩
theorem cy_MO_read : fx_cV M_LW_law M_MO_read 68 0 := ⟨⟨k_MO_read, i_MO, p_MO_read, by decide, by decide⟩, v_MO_read, s_MO_read, Or.inl (fx_in 1160 (by decide +kernel) rfl)⟩
theorem cy_MO_size : fx_cV M_LW_law M_MO_size 72 0 := ⟨⟨k_MO_size, i_MO, p_MO_size, by decide, by decide⟩, v_MO_size, s_MO_size, Or.inl (fx_in 1265 (by decide +kernel) rfl)⟩
theorem cy_MO_at : fx_cV M_LW_law M_MO_at 76 1 := ⟨⟨k_MO_at, i_MO, p_MO_at, by decide, by decide⟩, v_MO_at, s_MO_at, Or.inl (fx_in 1269 (by decide +kernel) rfl)⟩
theorem cy_MO_put : fx_cV M_LW_law M_MO_put 80 2 := ⟨⟨k_MO_put, i_MO, p_MO_put, by decide, by decide⟩, v_MO_put, s_MO_put, Or.inl (fx_in 1273 (by decide +kernel) rfl)⟩
theorem cy_MO_add : fx_cV M_LW_law M_MO_add 85 1 := ⟨⟨k_MO_add, i_MO, p_MO_add, by decide, by decide⟩, v_MO_add, s_MO_add, Or.inl (fx_in 1277 (by decide +kernel) rfl)⟩
theorem cy_MO_cut : fx_cV M_LW_law M_MO_cut 89 1 := ⟨⟨k_MO_cut, i_MO, p_MO_cut, by decide, by decide⟩, v_MO_cut, s_MO_cut, Or.inl (fx_in 1281 (by decide +kernel) rfl)⟩
theorem cy_MO_thrown : fx_cV M_LW_law M_MO_thrown 45 0 := ⟨⟨k_MO_thrown, i_MO, p_MO_thrown, by decide, by decide⟩, v_MO_thrown, s_MO_thrown, Or.inl (fx_in 1010 (by decide +kernel) rfl)⟩
theorem ll_blank : Cond.methodLink "FaxPagesLaw" 39 M_LW_blank.1 ∈ fx_tb := fx_in 616 (by decide +kernel) rfl
theorem wc_blank : Cond.codeWith M_LW_blank.1 M_LW_blank.2.1 M_LW_blank.2.2.1 M_LW_blank.2.2.2.1 hh_blank ∈ fx_tb := fx_in 618 (by decide +kernel) rfl
theorem ll_set : Cond.methodLink "FaxPagesLaw" 49 M_LW_set.1 ∈ fx_tb := fx_in 688 (by decide +kernel) rfl
theorem wc_set : Cond.codeWith M_LW_set.1 M_LW_set.2.1 M_LW_set.2.2.1 M_LW_set.2.2.2.1 hh_set ∈ fx_tb := fx_in 690 (by decide +kernel) rfl
theorem ll_write : Cond.methodLink "FaxPagesLaw" 61 M_LW_write.1 ∈ fx_tb := fx_in 712 (by decide +kernel) rfl
theorem wc_write : Cond.codeWith M_LW_write.1 M_LW_write.2.1 M_LW_write.2.2.1 M_LW_write.2.2.2.1 hh_write ∈ fx_tb := fx_in 714 (by decide +kernel) rfl
theorem ll_put : Cond.methodLink "FaxPagesLaw" 77 M_LW_put.1 ∈ fx_tb := fx_in 866 (by decide +kernel) rfl
theorem wc_put : Cond.codeWith M_LW_put.1 M_LW_put.2.1 M_LW_put.2.2.1 M_LW_put.2.2.2.1 hh_put ∈ fx_tb := fx_in 868 (by decide +kernel) rfl
theorem ll_cut : Cond.methodLink "FaxPagesLaw" 86 M_LW_cut.1 ∈ fx_tb := fx_in 874 (by decide +kernel) rfl
theorem wc_cut : Cond.codeWith M_LW_cut.1 M_LW_cut.2.1 M_LW_cut.2.2.1 M_LW_cut.2.2.2.1 hh_cut ∈ fx_tb := fx_in 876 (by decide +kernel) rfl
section LWC
variable {l : Launch} {b Ls c0 s0 : Nat} {xs : Nat → Int32} {i : Int} {h : fx_H} {a : Nat → Nat} {pp dd : Nat} {g w t : Int} {f : Int → Int → Int} {L : List Int} {K : Int × Int × Int × Int × Int}
/-- what stands behind a case -/
def nxt (l : Launch) (b Ls : Nat) (xs : Nat → Int32) (i : Int) (c0 s0 : Nat) : Prop := ∀ (h : fx_H) (a : Nat → Nat) (pp dd : Nat) (g w t : Int) (f : Int → Int → Int) (L : List Int) (K : Int × Int × Int × Int × Int) (c1 s1 : Nat), c1 ≤ c0 + 1 → s1 ≤ s0 + 6 → CPs h a pp dd g w t f L K → MPs h g w t f L K → fx_U l M_LW_law LB (fx_EL l M_LW_law LB b Ls xs) c1 s1 590 [some (.ref 2000), some (.ref 0), some (.ref 31), some (.ref 47), some (.int (zI i)), none, none] [] h
theorem law_0 (hL : Ls ≤ 2048) (hi : 0 ≤ i ∧ i + 4 ≤ Ls) (hB : c0 + 1 ≤ 601024 ∧ s0 + 6 ≤ 7293034) (htl : l.stackTraces = false) (c : CPs h a pp dd g w t f L K) (cm : MPs h g w t f L K) (nx : nxt l b Ls xs i c0 s0) : fx_U l M_LW_law LB (fx_EL l M_LW_law LB b Ls xs) c0 s0 96 [some (.ref 2000), some (.ref 0), some (.ref 31), some (.ref 47), some (.int (zI i)), none, none] [] h := by
  have hB0 : c0 + (0 : Nat) ≤ LB.1 ∧ s0 + (0 : Nat) ≤ LB.2 := ⟨by show c0 ≤ 601024; omega, by show s0 ≤ 7293034; omega⟩
  have hB0' : c0 + 1 + (0 : Nat) ≤ LB.1 ∧ s0 + 6 + (0 : Nat) ≤ LB.2 := hB
  have hK : K.1 = 0 ∨ K.1 = 1 := c.2.2.2.2.2.2.2.2.1
  obtain ⟨b5, c5⟩ := c.2.2.2.2.1
  refine fy_aload_n (i := 1) d_LW_law_96 rfl rfl ?_
  refine fy_aload_n (i := 0) d_LW_law_97 rfl rfl ?_
  refine fy_iload (i := 4) d_LW_law_98 rfl ?_
  refine fy_iconst d_LW_law_100 ?_
  refine fy_iadd d_LW_law_101 ?_
  refine fl_sld d_LW_law_102 (by omega) (by omega) (by omega) ?_
  refine fl_bool (tt := 110) (nB := 111) (sx_R _ _) d_LW_law_103 d_LW_law_106 d_LW_law_107 d_LW_law_110 ?_
  refine fy_aload_n (i := 0) d_LW_law_111 rfl rfl ?_
  refine fy_iload (i := 4) d_LW_law_112 rfl ?_
  refine fy_iconst d_LW_law_114 ?_
  refine fy_iadd d_LW_law_115 ?_
  refine fl_sld d_LW_law_116 (by omega) (by omega) (by omega) ?_
  refine fy_aload_n (i := 0) d_LW_law_117 rfl rfl ?_
  refine fy_iload (i := 4) d_LW_law_118 rfl ?_
  refine fy_iconst d_LW_law_120 ?_
  refine fy_iadd d_LW_law_121 ?_
  refine fl_sld d_LW_law_122 (by omega) (by omega) (by omega) ?_
  refine fl_callSW (M' := M_LW_blank) (hh := hh_blank) (B' := (1, 6)) (vs := [.ref 0, .int (zI (bo (sx xs (i + 1)))), .int (zI (sx xs (i + 2))), .int (zI (sx xs (i + 3)))]) (rest := []) (c1 := c0 + 1) (s1 := s0 + 6) (n := 126) d_LW_law_123 wc_blank i_LW p_LW_blank ⟨by decide, by decide⟩ v_LW_blank ll_blank rfl rfl hB (Nat.le_of_ble_eq_true rfl) (Or.inr ⟨by rw [(c).1]; rfl, rfl⟩) (lwc_blank c htl (bo_01 _) (sx_R _ _) (sx_R _ _) (fun s1 h2 m2 c2 => ?_) (fun s1 => ?_))
  · refine fy_istore (i := 5) (ls2 := [some (.ref 2000), some (.ref 0), some (.ref 31), some (.ref 47), some (.int (zI i)), some (.int (zI 0)), none]) d_LW_law_126 (by decide) rfl ?_
    refine fy_aload_n (i := 2) d_LW_law_128 rfl rfl ?_
    refine fy_aload_n (i := 0) d_LW_law_129 rfl rfl ?_
    refine fy_iload (i := 4) d_LW_law_130 rfl ?_
    refine fy_iconst d_LW_law_132 ?_
    refine fy_iadd d_LW_law_133 ?_
    refine fl_sld d_LW_law_134 (by omega) (by omega) (by omega) ?_
    refine fl_bool (tt := 142) (nB := 143) (sx_R _ _) d_LW_law_135 d_LW_law_138 d_LW_law_139 d_LW_law_142 ?_
    refine fy_aload_n (i := 0) d_LW_law_143 rfl rfl ?_
    refine fy_iload (i := 4) d_LW_law_144 rfl ?_
    refine fy_iconst d_LW_law_146 ?_
    refine fy_iadd d_LW_law_147 ?_
    refine fl_sld d_LW_law_148 (by omega) (by omega) (by omega) ?_
    refine fy_aload_n (i := 0) d_LW_law_149 rfl rfl ?_
    refine fy_iload (i := 4) d_LW_law_150 rfl ?_
    refine fy_iconst d_LW_law_152 ?_
    refine fy_iadd d_LW_law_153 ?_
    refine fl_sld d_LW_law_154 (by omega) (by omega) (by omega) ?_
    refine fy_callV (M' := M_MO_blank) (B' := (0, 0)) (vs := [.int (zI (bo (sx xs (i + 1)))), .int (zI (sx xs (i + 2))), .int (zI (sx xs (i + 3)))]) (rest := []) (c1 := c0 + 1) (s1 := s0 + 6) (n := 158) d_LW_law_155 cy_MO_blank (at_31 (h := _) (c2).1) rfl rfl rfl hB0' (Nat.le_of_ble_eq_true rfl) (Or.inl rfl) (r_blank (c2).1 ((cm).lo (m2).v) (bo_01 _) (sx_R _ _) (sx_R _ _) (fun s9 h3 m3 e3 cm3 => ?_) (fun s9 => absurd s1 s9))
    refine fy_aload_n (i := 2) d_LW_law_158 rfl rfl ?_
    refine fy_callV (M' := M_MO_thrown) (B' := (0, 0)) (vs := []) (rest := []) (c1 := c0 + 1) (s1 := s0 + 6) (n := 162) d_LW_law_159 cy_MO_thrown (at_31 (h := _) ((c2).hi m3).1) rfl rfl rfl hB0' (Nat.le_of_ble_eq_true rfl) (Or.inl rfl) (e_MO_thrown ((c2).hi m3).1 ?_)
    rw [e3]
    refine fy_iload (i := 5) d_LW_law_162 rfl ?_
    refine fl_same (tt := 169) d_LW_law_164 ?_
    refine fy_goto (n := 590) d_LW_law_169 ?_
    refine fy_fewer [some (.ref 2000), some (.ref 0), some (.ref 31), some (.ref 47), some (.int (zI i)), none, none] ⟨rfl, rfl, rfl, rfl, rfl, trivial⟩ ?_
    exact nx _ _ _ _ _ _ _ _ _ _ _ _ (Nat.le_refl _) (Nat.le_refl _) ((c2).hi m3) (cm3)
  · refine fy_istore (i := 5) (ls2 := [some (.ref 2000), some (.ref 0), some (.ref 31), some (.ref 47), some (.int (zI i)), some (.int (zI 1)), none]) d_LW_law_126 (by decide) rfl ?_
    refine fy_aload_n (i := 2) d_LW_law_128 rfl rfl ?_
    refine fy_aload_n (i := 0) d_LW_law_129 rfl rfl ?_
    refine fy_iload (i := 4) d_LW_law_130 rfl ?_
    refine fy_iconst d_LW_law_132 ?_
    refine fy_iadd d_LW_law_133 ?_
    refine fl_sld d_LW_law_134 (by omega) (by omega) (by omega) ?_
    refine fl_bool (tt := 142) (nB := 143) (sx_R _ _) d_LW_law_135 d_LW_law_138 d_LW_law_139 d_LW_law_142 ?_
    refine fy_aload_n (i := 0) d_LW_law_143 rfl rfl ?_
    refine fy_iload (i := 4) d_LW_law_144 rfl ?_
    refine fy_iconst d_LW_law_146 ?_
    refine fy_iadd d_LW_law_147 ?_
    refine fl_sld d_LW_law_148 (by omega) (by omega) (by omega) ?_
    refine fy_aload_n (i := 0) d_LW_law_149 rfl rfl ?_
    refine fy_iload (i := 4) d_LW_law_150 rfl ?_
    refine fy_iconst d_LW_law_152 ?_
    refine fy_iadd d_LW_law_153 ?_
    refine fl_sld d_LW_law_154 (by omega) (by omega) (by omega) ?_
    refine fy_callV (M' := M_MO_blank) (B' := (0, 0)) (vs := [.int (zI (bo (sx xs (i + 1)))), .int (zI (sx xs (i + 2))), .int (zI (sx xs (i + 3)))]) (rest := []) (c1 := c0 + 1) (s1 := s0 + 6) (n := 158) d_LW_law_155 cy_MO_blank (at_31 (h := _) (c).1) rfl rfl rfl hB0' (Nat.le_of_ble_eq_true rfl) (Or.inl rfl) (r_blank (c).1 (cm) (bo_01 _) (sx_R _ _) (sx_R _ _) (fun s9 => absurd s9 s1) (fun s9 h3 m3 e3 cm3 => ?_))
    refine fy_aload_n (i := 2) d_LW_law_158 rfl rfl ?_
    refine fy_callV (M' := M_MO_thrown) (B' := (0, 0)) (vs := []) (rest := []) (c1 := c0 + 1) (s1 := s0 + 6) (n := 162) d_LW_law_159 cy_MO_thrown (at_31 (h := _) ((c).hi m3).1) rfl rfl rfl hB0' (Nat.le_of_ble_eq_true rfl) (Or.inl rfl) (e_MO_thrown ((c).hi m3).1 ?_)
    rw [e3]
    refine fy_iload (i := 5) d_LW_law_162 rfl ?_
    refine fl_same (tt := 169) d_LW_law_164 ?_
    refine fy_goto (n := 590) d_LW_law_169 ?_
    refine fy_fewer [some (.ref 2000), some (.ref 0), some (.ref 31), some (.ref 47), some (.int (zI i)), none, none] ⟨rfl, rfl, rfl, rfl, rfl, trivial⟩ ?_
    exact nx _ _ _ _ _ _ _ _ _ _ _ _ (Nat.le_refl _) (Nat.le_refl _) ((c).hi m3) (cm3)
theorem law_1 (hL : Ls ≤ 2048) (hi : 0 ≤ i ∧ i + 4 ≤ Ls) (hB : c0 + 1 ≤ 601024 ∧ s0 + 6 ≤ 7293034) (htl : l.stackTraces = false) (c : CPs h a pp dd g w t f L K) (cm : MPs h g w t f L K) (nx : nxt l b Ls xs i c0 s0) : fx_U l M_LW_law LB (fx_EL l M_LW_law LB b Ls xs) c0 s0 172 [some (.ref 2000), some (.ref 0), some (.ref 31), some (.ref 47), some (.int (zI i)), none, none] [] h := by
  have hB0 : c0 + (0 : Nat) ≤ LB.1 ∧ s0 + (0 : Nat) ≤ LB.2 := ⟨by show c0 ≤ 601024; omega, by show s0 ≤ 7293034; omega⟩
  have hB0' : c0 + 1 + (0 : Nat) ≤ LB.1 ∧ s0 + 6 + (0 : Nat) ≤ LB.2 := hB
  have hK : K.1 = 0 ∨ K.1 = 1 := c.2.2.2.2.2.2.2.2.1
  obtain ⟨b5, c5⟩ := c.2.2.2.2.1
  refine fy_aload_n (i := 1) d_LW_law_172 rfl rfl ?_
  refine fy_aload_n (i := 0) d_LW_law_173 rfl rfl ?_
  refine fy_iload (i := 4) d_LW_law_174 rfl ?_
  refine fy_iconst d_LW_law_176 ?_
  refine fy_iadd d_LW_law_177 ?_
  refine fl_sld d_LW_law_178 (by omega) (by omega) (by omega) ?_
  refine fy_aload_n (i := 0) d_LW_law_179 rfl rfl ?_
  refine fy_iload (i := 4) d_LW_law_180 rfl ?_
  refine fy_iconst d_LW_law_182 ?_
  refine fy_iadd d_LW_law_183 ?_
  refine fl_sld d_LW_law_184 (by omega) (by omega) (by omega) ?_
  refine fy_aload_n (i := 0) d_LW_law_185 rfl rfl ?_
  refine fy_iload (i := 4) d_LW_law_186 rfl ?_
  refine fy_iconst d_LW_law_188 ?_
  refine fy_iadd d_LW_law_189 ?_
  refine fl_sld d_LW_law_190 (by omega) (by omega) (by omega) ?_
  refine fl_callSW (M' := M_LW_set) (hh := hh_set) (B' := (1, 6)) (vs := [.ref 0, .int (zI (sx xs (i + 1))), .int (zI (sx xs (i + 2))), .int (zI (sx xs (i + 3)))]) (rest := []) (c1 := c0 + 1) (s1 := s0 + 6) (n := 194) d_LW_law_191 wc_set i_LW p_LW_set ⟨by decide, by decide⟩ v_LW_set ll_set rfl rfl hB (Nat.le_of_ble_eq_true rfl) (Or.inr ⟨by rw [(c).1]; rfl, rfl⟩) (lwc_set c htl (sx_R _ _) (sx_R _ _) (sx_R _ _) (fun s1 h2 m2 c2 => ?_) (fun s1 => ?_) (fun s1 => ?_))
  · refine fy_istore (i := 5) (ls2 := [some (.ref 2000), some (.ref 0), some (.ref 31), some (.ref 47), some (.int (zI i)), some (.int (zI 0)), none]) d_LW_law_194 (by decide) rfl ?_
    refine fy_aload_n (i := 2) d_LW_law_196 rfl rfl ?_
    refine fy_aload_n (i := 0) d_LW_law_197 rfl rfl ?_
    refine fy_iload (i := 4) d_LW_law_198 rfl ?_
    refine fy_iconst d_LW_law_200 ?_
    refine fy_iadd d_LW_law_201 ?_
    refine fl_sld d_LW_law_202 (by omega) (by omega) (by omega) ?_
    refine fy_aload_n (i := 0) d_LW_law_203 rfl rfl ?_
    refine fy_iload (i := 4) d_LW_law_204 rfl ?_
    refine fy_iconst d_LW_law_206 ?_
    refine fy_iadd d_LW_law_207 ?_
    refine fl_sld d_LW_law_208 (by omega) (by omega) (by omega) ?_
    refine fy_aload_n (i := 0) d_LW_law_209 rfl rfl ?_
    refine fy_iload (i := 4) d_LW_law_210 rfl ?_
    refine fy_iconst d_LW_law_212 ?_
    refine fy_iadd d_LW_law_213 ?_
    refine fl_sld d_LW_law_214 (by omega) (by omega) (by omega) ?_
    refine fy_callV (M' := M_MO_set) (B' := (0, 0)) (vs := [.int (zI (sx xs (i + 1))), .int (zI (sx xs (i + 2))), .int (zI (sx xs (i + 3)))]) (rest := []) (c1 := c0 + 1) (s1 := s0 + 6) (n := 218) d_LW_law_215 cy_MO_set (at_31 (h := _) (c2).1) rfl rfl rfl hB0' (Nat.le_of_ble_eq_true rfl) (Or.inl rfl) (r_set (c2).1 ((cm).lo (m2).v) (sx_R _ _) (sx_R _ _) (sx_R _ _) (fun s9 h3 m3 e3 cm3 => ?_) (fun s9 => absurd s1.1 s9) (fun s9 => absurd s1.2 s9.2))
    refine fy_aload_n (i := 2) d_LW_law_218 rfl rfl ?_
    refine fy_callV (M' := M_MO_thrown) (B' := (0, 0)) (vs := []) (rest := []) (c1 := c0 + 1) (s1 := s0 + 6) (n := 222) d_LW_law_219 cy_MO_thrown (at_31 (h := _) ((c2).hi m3).1) rfl rfl rfl hB0' (Nat.le_of_ble_eq_true rfl) (Or.inl rfl) (e_MO_thrown ((c2).hi m3).1 ?_)
    rw [e3]
    refine fy_iload (i := 5) d_LW_law_222 rfl ?_
    refine fl_same (tt := 229) d_LW_law_224 ?_
    refine fy_goto (n := 590) d_LW_law_229 ?_
    refine fy_fewer [some (.ref 2000), some (.ref 0), some (.ref 31), some (.ref 47), some (.int (zI i)), none, none] ⟨rfl, rfl, rfl, rfl, rfl, trivial⟩ ?_
    exact nx _ _ _ _ _ _ _ _ _ _ _ _ (Nat.le_refl _) (Nat.le_refl _) ((c2).hi m3) (cm3)
  · refine fy_istore (i := 5) (ls2 := [some (.ref 2000), some (.ref 0), some (.ref 31), some (.ref 47), some (.int (zI i)), some (.int (zI 1)), none]) d_LW_law_194 (by decide) rfl ?_
    refine fy_aload_n (i := 2) d_LW_law_196 rfl rfl ?_
    refine fy_aload_n (i := 0) d_LW_law_197 rfl rfl ?_
    refine fy_iload (i := 4) d_LW_law_198 rfl ?_
    refine fy_iconst d_LW_law_200 ?_
    refine fy_iadd d_LW_law_201 ?_
    refine fl_sld d_LW_law_202 (by omega) (by omega) (by omega) ?_
    refine fy_aload_n (i := 0) d_LW_law_203 rfl rfl ?_
    refine fy_iload (i := 4) d_LW_law_204 rfl ?_
    refine fy_iconst d_LW_law_206 ?_
    refine fy_iadd d_LW_law_207 ?_
    refine fl_sld d_LW_law_208 (by omega) (by omega) (by omega) ?_
    refine fy_aload_n (i := 0) d_LW_law_209 rfl rfl ?_
    refine fy_iload (i := 4) d_LW_law_210 rfl ?_
    refine fy_iconst d_LW_law_212 ?_
    refine fy_iadd d_LW_law_213 ?_
    refine fl_sld d_LW_law_214 (by omega) (by omega) (by omega) ?_
    refine fy_callV (M' := M_MO_set) (B' := (0, 0)) (vs := [.int (zI (sx xs (i + 1))), .int (zI (sx xs (i + 2))), .int (zI (sx xs (i + 3)))]) (rest := []) (c1 := c0 + 1) (s1 := s0 + 6) (n := 218) d_LW_law_215 cy_MO_set (at_31 (h := _) (c).1) rfl rfl rfl hB0' (Nat.le_of_ble_eq_true rfl) (Or.inl rfl) (r_set (c).1 (cm) (sx_R _ _) (sx_R _ _) (sx_R _ _) (fun s9 => absurd s9.1 s1) (fun s9 h3 m3 e3 cm3 => ?_) (fun s9 => absurd s9.1 s1))
    refine fy_aload_n (i := 2) d_LW_law_218 rfl rfl ?_
    refine fy_callV (M' := M_MO_thrown) (B' := (0, 0)) (vs := []) (rest := []) (c1 := c0 + 1) (s1 := s0 + 6) (n := 222) d_LW_law_219 cy_MO_thrown (at_31 (h := _) ((c).hi m3).1) rfl rfl rfl hB0' (Nat.le_of_ble_eq_true rfl) (Or.inl rfl) (e_MO_thrown ((c).hi m3).1 ?_)
    rw [e3]
    refine fy_iload (i := 5) d_LW_law_222 rfl ?_
    refine fl_same (tt := 229) d_LW_law_224 ?_
    refine fy_goto (n := 590) d_LW_law_229 ?_
    refine fy_fewer [some (.ref 2000), some (.ref 0), some (.ref 31), some (.ref 47), some (.int (zI i)), none, none] ⟨rfl, rfl, rfl, rfl, rfl, trivial⟩ ?_
    exact nx _ _ _ _ _ _ _ _ _ _ _ _ (Nat.le_refl _) (Nat.le_refl _) ((c).hi m3) (cm3)
  · refine fy_istore (i := 5) (ls2 := [some (.ref 2000), some (.ref 0), some (.ref 31), some (.ref 47), some (.int (zI i)), some (.int (zI 2)), none]) d_LW_law_194 (by decide) rfl ?_
    refine fy_aload_n (i := 2) d_LW_law_196 rfl rfl ?_
    refine fy_aload_n (i := 0) d_LW_law_197 rfl rfl ?_
    refine fy_iload (i := 4) d_LW_law_198 rfl ?_
    refine fy_iconst d_LW_law_200 ?_
    refine fy_iadd d_LW_law_201 ?_
    refine fl_sld d_LW_law_202 (by omega) (by omega) (by omega) ?_
    refine fy_aload_n (i := 0) d_LW_law_203 rfl rfl ?_
    refine fy_iload (i := 4) d_LW_law_204 rfl ?_
    refine fy_iconst d_LW_law_206 ?_
    refine fy_iadd d_LW_law_207 ?_
    refine fl_sld d_LW_law_208 (by omega) (by omega) (by omega) ?_
    refine fy_aload_n (i := 0) d_LW_law_209 rfl rfl ?_
    refine fy_iload (i := 4) d_LW_law_210 rfl ?_
    refine fy_iconst d_LW_law_212 ?_
    refine fy_iadd d_LW_law_213 ?_
    refine fl_sld d_LW_law_214 (by omega) (by omega) (by omega) ?_
    refine fy_callV (M' := M_MO_set) (B' := (0, 0)) (vs := [.int (zI (sx xs (i + 1))), .int (zI (sx xs (i + 2))), .int (zI (sx xs (i + 3)))]) (rest := []) (c1 := c0 + 1) (s1 := s0 + 6) (n := 218) d_LW_law_215 cy_MO_set (at_31 (h := _) (c).1) rfl rfl rfl hB0' (Nat.le_of_ble_eq_true rfl) (Or.inl rfl) (r_set (c).1 (cm) (sx_R _ _) (sx_R _ _) (sx_R _ _) (fun s9 => absurd s9.2 s1.2) (fun s9 => absurd s1.1 s9) (fun s9 h3 m3 e3 cm3 => ?_))
    refine fy_aload_n (i := 2) d_LW_law_218 rfl rfl ?_
    refine fy_callV (M' := M_MO_thrown) (B' := (0, 0)) (vs := []) (rest := []) (c1 := c0 + 1) (s1 := s0 + 6) (n := 222) d_LW_law_219 cy_MO_thrown (at_31 (h := _) ((c).hi m3).1) rfl rfl rfl hB0' (Nat.le_of_ble_eq_true rfl) (Or.inl rfl) (e_MO_thrown ((c).hi m3).1 ?_)
    rw [e3]
    refine fy_iload (i := 5) d_LW_law_222 rfl ?_
    refine fl_same (tt := 229) d_LW_law_224 ?_
    refine fy_goto (n := 590) d_LW_law_229 ?_
    refine fy_fewer [some (.ref 2000), some (.ref 0), some (.ref 31), some (.ref 47), some (.int (zI i)), none, none] ⟨rfl, rfl, rfl, rfl, rfl, trivial⟩ ?_
    exact nx _ _ _ _ _ _ _ _ _ _ _ _ (Nat.le_refl _) (Nat.le_refl _) ((c).hi m3) (cm3)
theorem law_2 (hL : Ls ≤ 2048) (hi : 0 ≤ i ∧ i + 4 ≤ Ls) (hB : c0 + 1 ≤ 601024 ∧ s0 + 6 ≤ 7293034) (htl : l.stackTraces = false) (c : CPs h a pp dd g w t f L K) (cm : MPs h g w t f L K) (nx : nxt l b Ls xs i c0 s0) : fx_U l M_LW_law LB (fx_EL l M_LW_law LB b Ls xs) c0 s0 232 [some (.ref 2000), some (.ref 0), some (.ref 31), some (.ref 47), some (.int (zI i)), none, none] [] h := by
  have hB0 : c0 + (0 : Nat) ≤ LB.1 ∧ s0 + (0 : Nat) ≤ LB.2 := ⟨by show c0 ≤ 601024; omega, by show s0 ≤ 7293034; omega⟩
  have hB0' : c0 + 1 + (0 : Nat) ≤ LB.1 ∧ s0 + 6 + (0 : Nat) ≤ LB.2 := hB
  have hK : K.1 = 0 ∨ K.1 = 1 := c.2.2.2.2.2.2.2.2.1
  obtain ⟨b5, c5⟩ := c.2.2.2.2.1
  refine fy_aload_n (i := 1) d_LW_law_232 rfl rfl ?_
  refine fy_aload_n (i := 0) d_LW_law_233 rfl rfl ?_
  refine fy_iload (i := 4) d_LW_law_234 rfl ?_
  refine fy_iconst d_LW_law_236 ?_
  refine fy_iadd d_LW_law_237 ?_
  refine fl_sld d_LW_law_238 (by omega) (by omega) (by omega) ?_
  refine fy_aload_n (i := 0) d_LW_law_239 rfl rfl ?_
  refine fy_iload (i := 4) d_LW_law_240 rfl ?_
  refine fy_iconst d_LW_law_242 ?_
  refine fy_iadd d_LW_law_243 ?_
  refine fl_sld d_LW_law_244 (by omega) (by omega) (by omega) ?_
  refine fy_callV (M' := M_FP_get) (B' := (0, 0)) (vs := [.int (zI (sx xs (i + 1))), .int (zI (sx xs (i + 2)))]) (rest := []) (c1 := c0) (s1 := s0) (n := 248) d_LW_law_245 cy_FP_get (at_0 (h := _) (c).1) rfl rfl rfl hB0 (Nat.le_of_ble_eq_true rfl) (Or.inl rfl) (c_get c (sx_R _ _) (sx_R _ _) ?_)
  refine fy_aload_n (i := 2) d_LW_law_248 rfl rfl ?_
  refine fy_aload_n (i := 0) d_LW_law_249 rfl rfl ?_
  refine fy_iload (i := 4) d_LW_law_250 rfl ?_
  refine fy_iconst d_LW_law_252 ?_
  refine fy_iadd d_LW_law_253 ?_
  refine fl_sld d_LW_law_254 (by omega) (by omega) (by omega) ?_
  refine fy_aload_n (i := 0) d_LW_law_255 rfl rfl ?_
  refine fy_iload (i := 4) d_LW_law_256 rfl ?_
  refine fy_iconst d_LW_law_258 ?_
  refine fy_iadd d_LW_law_259 ?_
  refine fl_sld d_LW_law_260 (by omega) (by omega) (by omega) ?_
  refine fy_callV (M' := M_MO_get) (B' := (0, 0)) (vs := [.int (zI (sx xs (i + 1))), .int (zI (sx xs (i + 2)))]) (rest := [.int (zI (getO w t f ((sx xs (i + 1))) ((sx xs (i + 2)))))]) (c1 := c0) (s1 := s0) (n := 264) d_LW_law_261 cy_MO_get (at_31 (h := _) (c).1) rfl rfl rfl hB0 (Nat.le_of_ble_eq_true rfl) (Or.inl rfl) (r_get (c).1 cm (sx_R _ _) (sx_R _ _) ?_)
  refine fl_same (tt := 590) d_LW_law_264 ?_
  refine fy_fewer [some (.ref 2000), some (.ref 0), some (.ref 31), some (.ref 47), some (.int (zI i)), none, none] ⟨rfl, rfl, rfl, rfl, rfl, trivial⟩ ?_
  exact nx _ _ _ _ _ _ _ _ _ _ _ _ (Nat.le_add_right _ _) (Nat.le_add_right _ _) ((c).f0 (k := 0) (u := 0)) ((cm).f0 (u := 0))
theorem law_3 (hL : Ls ≤ 2048) (hi : 0 ≤ i ∧ i + 4 ≤ Ls) (hB : c0 + 1 ≤ 601024 ∧ s0 + 6 ≤ 7293034) (htl : l.stackTraces = false) (c : CPs h a pp dd g w t f L K) (cm : MPs h g w t f L K) (nx : nxt l b Ls xs i c0 s0) : fx_U l M_LW_law LB (fx_EL l M_LW_law LB b Ls xs) c0 s0 269 [some (.ref 2000), some (.ref 0), some (.ref 31), some (.ref 47), some (.int (zI i)), none, none] [] h := by
  have hB0 : c0 + (0 : Nat) ≤ LB.1 ∧ s0 + (0 : Nat) ≤ LB.2 := ⟨by show c0 ≤ 601024; omega, by show s0 ≤ 7293034; omega⟩
  have hB0' : c0 + 1 + (0 : Nat) ≤ LB.1 ∧ s0 + 6 + (0 : Nat) ≤ LB.2 := hB
  have hK : K.1 = 0 ∨ K.1 = 1 := c.2.2.2.2.2.2.2.2.1
  obtain ⟨b5, c5⟩ := c.2.2.2.2.1
  refine fy_aload_n (i := 1) d_LW_law_269 rfl rfl ?_
  refine fy_aload_n (i := 0) d_LW_law_270 rfl rfl ?_
  refine fy_iload (i := 4) d_LW_law_271 rfl ?_
  refine fy_iconst d_LW_law_273 ?_
  refine fy_iadd d_LW_law_274 ?_
  refine fl_sld d_LW_law_275 (by omega) (by omega) (by omega) ?_
  refine fy_callV (M' := M_FP_info) (B' := (0, 0)) (vs := [.int (zI (sx xs (i + 1)))]) (rest := []) (c1 := c0) (s1 := s0) (n := 279) d_LW_law_276 cy_FP_info (at_0 (h := _) (c).1) rfl rfl rfl hB0 (Nat.le_of_ble_eq_true rfl) (Or.inl rfl) (c_info c (sx_R _ _) ?_)
  refine fy_aload_n (i := 2) d_LW_law_279 rfl rfl ?_
  refine fy_aload_n (i := 0) d_LW_law_280 rfl rfl ?_
  refine fy_iload (i := 4) d_LW_law_281 rfl ?_
  refine fy_iconst d_LW_law_283 ?_
  refine fy_iadd d_LW_law_284 ?_
  refine fl_sld d_LW_law_285 (by omega) (by omega) (by omega) ?_
  refine fy_callV (M' := M_MO_info) (B' := (0, 0)) (vs := [.int (zI (sx xs (i + 1)))]) (rest := [.int (zI (infO g w t K ((sx xs (i + 1)))))]) (c1 := c0) (s1 := s0) (n := 289) d_LW_law_286 cy_MO_info (at_31 (h := _) (c).1) rfl rfl rfl hB0 (Nat.le_of_ble_eq_true rfl) (Or.inl rfl) (r_info (c).1 cm hK (sx_R _ _) ?_)
  refine fl_same (tt := 590) d_LW_law_289 ?_
  refine fy_fewer [some (.ref 2000), some (.ref 0), some (.ref 31), some (.ref 47), some (.int (zI i)), none, none] ⟨rfl, rfl, rfl, rfl, rfl, trivial⟩ ?_
  exact nx _ _ _ _ _ _ _ _ _ _ _ _ (Nat.le_add_right _ _) (Nat.le_add_right _ _) ((c).f0 (k := 0) (u := 0)) ((cm).f0 (u := 0))
theorem law_4 (hL : Ls ≤ 2048) (hi : 0 ≤ i ∧ i + 4 ≤ Ls) (hB : c0 + 1 ≤ 601024 ∧ s0 + 6 ≤ 7293034) (htl : l.stackTraces = false) (c : CPs h a pp dd g w t f L K) (cm : MPs h g w t f L K) (nx : nxt l b Ls xs i c0 s0) : fx_U l M_LW_law LB (fx_EL l M_LW_law LB b Ls xs) c0 s0 294 [some (.ref 2000), some (.ref 0), some (.ref 31), some (.ref 47), some (.int (zI i)), none, none] [] h := by
  have hB0 : c0 + (0 : Nat) ≤ LB.1 ∧ s0 + (0 : Nat) ≤ LB.2 := ⟨by show c0 ≤ 601024; omega, by show s0 ≤ 7293034; omega⟩
  have hB0' : c0 + 1 + (0 : Nat) ≤ LB.1 ∧ s0 + 6 + (0 : Nat) ≤ LB.2 := hB
  have hK : K.1 = 0 ∨ K.1 = 1 := c.2.2.2.2.2.2.2.2.1
  obtain ⟨b5, c5⟩ := c.2.2.2.2.1
  refine fy_aload_n (i := 1) d_LW_law_294 rfl rfl ?_
  refine fy_aload_n (i := 0) d_LW_law_295 rfl rfl ?_
  refine fy_iload (i := 4) d_LW_law_296 rfl ?_
  refine fy_iconst d_LW_law_298 ?_
  refine fy_iadd d_LW_law_299 ?_
  refine fl_sld d_LW_law_300 (by omega) (by omega) (by omega) ?_
  refine fy_aload_n (i := 0) d_LW_law_301 rfl rfl ?_
  refine fy_iload (i := 4) d_LW_law_302 rfl ?_
  refine fy_iconst d_LW_law_304 ?_
  refine fy_iadd d_LW_law_305 ?_
  refine fl_sld d_LW_law_306 (by omega) (by omega) (by omega) ?_
  refine fl_bool (tt := 314) (nB := 315) (sx_R _ _) d_LW_law_307 d_LW_law_310 d_LW_law_311 d_LW_law_314 ?_
  refine fy_aload_n (i := 0) d_LW_law_315 rfl rfl ?_
  refine fy_iload (i := 4) d_LW_law_316 rfl ?_
  refine fy_iconst d_LW_law_318 ?_
  refine fy_iadd d_LW_law_319 ?_
  refine fl_sld d_LW_law_320 (by omega) (by omega) (by omega) ?_
  refine fy_aload_n (i := 3) d_LW_law_321 rfl rfl ?_
  refine fl_callSW (M' := M_LW_write) (hh := hh_write) (B' := (1, 6)) (vs := [.ref 0, .int (zI (sx xs (i + 1))), .int (zI (bo (sx xs (i + 2)))), .int (zI (sx xs (i + 3))), .ref 47]) (rest := []) (c1 := c0 + 1) (s1 := s0 + 6) (n := 325) d_LW_law_322 wc_write i_LW p_LW_write ⟨by decide, by decide⟩ v_LW_write ll_write rfl rfl hB (Nat.le_of_ble_eq_true rfl) (Or.inr ⟨by rw [(c).1]; rfl, rfl⟩) (lwc_write c htl (sx_R _ _) (sx_R _ _) (bo_01 _) (fun s1 s2 hl2 h2 m2 c2 => ?_) (fun s1 => ?_) (fun s1 s2 => ?_))
  · refine fy_istore (i := 5) (ls2 := [some (.ref 2000), some (.ref 0), some (.ref 31), some (.ref 47), some (.int (zI i)), some (.int (zI 0)), none]) d_LW_law_325 (by decide) rfl ?_
    refine fy_aload_n (i := 2) d_LW_law_327 rfl rfl ?_
    refine fy_aload_n (i := 0) d_LW_law_328 rfl rfl ?_
    refine fy_iload (i := 4) d_LW_law_329 rfl ?_
    refine fy_iconst d_LW_law_331 ?_
    refine fy_iadd d_LW_law_332 ?_
    refine fl_sld d_LW_law_333 (by omega) (by omega) (by omega) ?_
    refine fy_aload_n (i := 0) d_LW_law_334 rfl rfl ?_
    refine fy_iload (i := 4) d_LW_law_335 rfl ?_
    refine fy_iconst d_LW_law_337 ?_
    refine fy_iadd d_LW_law_338 ?_
    refine fl_sld d_LW_law_339 (by omega) (by omega) (by omega) ?_
    refine fl_bool (tt := 347) (nB := 348) (sx_R _ _) d_LW_law_340 d_LW_law_343 d_LW_law_344 d_LW_law_347 ?_
    refine fy_aload_n (i := 0) d_LW_law_348 rfl rfl ?_
    refine fy_iload (i := 4) d_LW_law_349 rfl ?_
    refine fy_iconst d_LW_law_351 ?_
    refine fy_iadd d_LW_law_352 ?_
    refine fl_sld d_LW_law_353 (by omega) (by omega) (by omega) ?_
    refine fy_callV (M' := M_MO_write) (B' := (0, 0)) (vs := [.int (zI (sx xs (i + 1))), .int (zI (bo (sx xs (i + 2)))), .int (zI (sx xs (i + 3)))]) (rest := []) (c1 := c0 + 1) (s1 := s0 + 6) (n := 357) d_LW_law_354 cy_MO_write (at_31 (h := _) ((show CPs (fx_uL h2 47 0 (((wfile ((bo (sx xs (i + 2)))) ((sx xs (i + 1))) g w t f ((sx xs (i + 3))) (wrM t ((sx xs (i + 3))))).length : Nat) : Int)) a pp dd g w t f (wfile ((bo (sx xs (i + 2)))) ((sx xs (i + 1))) g w t f ((sx xs (i + 3))) (wrM t ((sx xs (i + 3))))) (1, (sx xs (i + 1)), (bo (sx xs (i + 2))), (sx xs (i + 3)), (wrM t ((sx xs (i + 3))) : Nat)) from c2)).1) rfl rfl rfl hB0' (Nat.le_of_ble_eq_true rfl) (Or.inl rfl) (r_write ((show CPs (fx_uL h2 47 0 (((wfile ((bo (sx xs (i + 2)))) ((sx xs (i + 1))) g w t f ((sx xs (i + 3))) (wrM t ((sx xs (i + 3))))).length : Nat) : Int)) a pp dd g w t f (wfile ((bo (sx xs (i + 2)))) ((sx xs (i + 1))) g w t f ((sx xs (i + 3))) (wrM t ((sx xs (i + 3))))) (1, (sx xs (i + 1)), (bo (sx xs (i + 2))), (sx xs (i + 3)), (wrM t ((sx xs (i + 3))) : Nat)) from c2)).1 ((MPs.uL (p := 47) (k := 0) (((wfile ((bo (sx xs (i + 2)))) ((sx xs (i + 1))) g w t f ((sx xs (i + 3))) (wrM t ((sx xs (i + 3))))).length : Nat) : Int) ((cm).lo (m2).v))) (sx_R _ _) (sx_R _ _) (bo_01 _) (fun s9 s10 _ h3 m3 e3 cm3 => ?_) (fun s9 => absurd s1 s9) (fun s9 s10 => absurd s10 s2) (fun y1 y2 => hl2))
    refine fy_istore (i := 6) (ls2 := [some (.ref 2000), some (.ref 0), some (.ref 31), some (.ref 47), some (.int (zI i)), some (.int (zI 0)), some (.int (zI (((wfile ((bo (sx xs (i + 2)))) ((sx xs (i + 1))) g w t f ((sx xs (i + 3))) (wrM t ((sx xs (i + 3))))).length : Nat) : Int)))]) d_LW_law_357 (by decide) rfl ?_
    refine fy_aload_n (i := 2) d_LW_law_359 rfl rfl ?_
    refine fy_callV (M' := M_MO_thrown) (B' := (0, 0)) (vs := []) (rest := []) (c1 := c0 + 1) (s1 := s0 + 6) (n := 363) d_LW_law_360 cy_MO_thrown (at_31 (h := _) (((show CPs (fx_uL h2 47 0 (((wfile ((bo (sx xs (i + 2)))) ((sx xs (i + 1))) g w t f ((sx xs (i + 3))) (wrM t ((sx xs (i + 3))))).length : Nat) : Int)) a pp dd g w t f (wfile ((bo (sx xs (i + 2)))) ((sx xs (i + 1))) g w t f ((sx xs (i + 3))) (wrM t ((sx xs (i + 3))))) (1, (sx xs (i + 1)), (bo (sx xs (i + 2))), (sx xs (i + 3)), (wrM t ((sx xs (i + 3))) : Nat)) from c2)).hi m3).1) rfl rfl rfl hB0' (Nat.le_of_ble_eq_true rfl) (Or.inl rfl) (e_MO_thrown (((show CPs (fx_uL h2 47 0 (((wfile ((bo (sx xs (i + 2)))) ((sx xs (i + 1))) g w t f ((sx xs (i + 3))) (wrM t ((sx xs (i + 3))))).length : Nat) : Int)) a pp dd g w t f (wfile ((bo (sx xs (i + 2)))) ((sx xs (i + 1))) g w t f ((sx xs (i + 3))) (wrM t ((sx xs (i + 3))))) (1, (sx xs (i + 1)), (bo (sx xs (i + 2))), (sx xs (i + 3)), (wrM t ((sx xs (i + 3))) : Nat)) from c2)).hi m3).1 ?_)
    rw [e3]
    refine fy_iload (i := 5) d_LW_law_363 rfl ?_
    refine fl_same (tt := 370) d_LW_law_365 ?_
    refine fy_iload (i := 5) d_LW_law_370 rfl ?_
    refine fy_if_ne (t := 387) (n := 375) d_LW_law_372 (show zR 0 by decide) (fun z => absurd rfl z) (fun _ => ?_)
    refine fy_aload_n (i := 3) d_LW_law_375 rfl rfl ?_
    refine fy_iconst d_LW_law_376 ?_
    refine fy_lald (n0 := 1) d_LW_law_377 (at_47 (h := _) (((show CPs (fx_uL h2 47 0 (((wfile ((bo (sx xs (i + 2)))) ((sx xs (i + 1))) g w t f ((sx xs (i + 3))) (wrM t ((sx xs (i + 3))))).length : Nat) : Int)) a pp dd g w t f (wfile ((bo (sx xs (i + 2)))) ((sx xs (i + 1))) g w t f ((sx xs (i + 3))) (wrM t ((sx xs (i + 3))))) (1, (sx xs (i + 1)), (bo (sx xs (i + 2))), (sx xs (i + 3)), (wrM t ((sx xs (i + 3))) : Nat)) from c2)).hi m3).1) (by decide) (by decide) (by decide) ?_
    rw [show (h3).2.2.2 47 (Int.toNat 0) = (((wfile ((bo (sx xs (i + 2)))) ((sx xs (i + 1))) g w t f ((sx xs (i + 3))) (wrM t ((sx xs (i + 3))))).length : Nat) : Int) from ((m3.2.2.2 47 0 (by omega)).trans uL_at)]
    refine fy_iload (i := 6) d_LW_law_378 rfl ?_
    refine fy_i2l d_LW_law_380 (by have := hl2; omega) ?_
    refine fy_lcmp d_LW_law_381 (by have := hl2; omega) (by have := hl2; omega) ?_
    refine fy_if_eq (t := 387) (n := 385) d_LW_law_382 (zC_R _ _) (fun _ => ?_) (fun z => absurd (zC_0.mpr rfl) z)
    refine fy_goto (n := 590) d_LW_law_387 ?_
    refine fy_fewer [some (.ref 2000), some (.ref 0), some (.ref 31), some (.ref 47), some (.int (zI i)), none, none] ⟨rfl, rfl, rfl, rfl, rfl, trivial⟩ ?_
    exact nx _ _ _ _ _ _ _ _ _ _ _ _ (Nat.le_refl _) (Nat.le_refl _) (((show CPs (fx_uL h2 47 0 (((wfile ((bo (sx xs (i + 2)))) ((sx xs (i + 1))) g w t f ((sx xs (i + 3))) (wrM t ((sx xs (i + 3))))).length : Nat) : Int)) a pp dd g w t f (wfile ((bo (sx xs (i + 2)))) ((sx xs (i + 1))) g w t f ((sx xs (i + 3))) (wrM t ((sx xs (i + 3))))) (1, (sx xs (i + 1)), (bo (sx xs (i + 2))), (sx xs (i + 3)), (wrM t ((sx xs (i + 3))) : Nat)) from c2)).hi m3) (cm3)
  · refine fy_istore (i := 5) (ls2 := [some (.ref 2000), some (.ref 0), some (.ref 31), some (.ref 47), some (.int (zI i)), some (.int (zI 1)), none]) d_LW_law_325 (by decide) rfl ?_
    refine fy_aload_n (i := 2) d_LW_law_327 rfl rfl ?_
    refine fy_aload_n (i := 0) d_LW_law_328 rfl rfl ?_
    refine fy_iload (i := 4) d_LW_law_329 rfl ?_
    refine fy_iconst d_LW_law_331 ?_
    refine fy_iadd d_LW_law_332 ?_
    refine fl_sld d_LW_law_333 (by omega) (by omega) (by omega) ?_
    refine fy_aload_n (i := 0) d_LW_law_334 rfl rfl ?_
    refine fy_iload (i := 4) d_LW_law_335 rfl ?_
    refine fy_iconst d_LW_law_337 ?_
    refine fy_iadd d_LW_law_338 ?_
    refine fl_sld d_LW_law_339 (by omega) (by omega) (by omega) ?_
    refine fl_bool (tt := 347) (nB := 348) (sx_R _ _) d_LW_law_340 d_LW_law_343 d_LW_law_344 d_LW_law_347 ?_
    refine fy_aload_n (i := 0) d_LW_law_348 rfl rfl ?_
    refine fy_iload (i := 4) d_LW_law_349 rfl ?_
    refine fy_iconst d_LW_law_351 ?_
    refine fy_iadd d_LW_law_352 ?_
    refine fl_sld d_LW_law_353 (by omega) (by omega) (by omega) ?_
    refine fy_callV (M' := M_MO_write) (B' := (0, 0)) (vs := [.int (zI (sx xs (i + 1))), .int (zI (bo (sx xs (i + 2)))), .int (zI (sx xs (i + 3)))]) (rest := []) (c1 := c0 + 1) (s1 := s0 + 6) (n := 357) d_LW_law_354 cy_MO_write (at_31 (h := _) (c).1) rfl rfl rfl hB0' (Nat.le_of_ble_eq_true rfl) (Or.inl rfl) (r_write (c).1 (cm) (sx_R _ _) (sx_R _ _) (bo_01 _) (fun s9 s10 => absurd s9 s1) (fun s9 h3 m3 e3 cm3 => ?_) (fun s9 s10 => absurd s9 s1) (fun y1 y2 => absurd y1 s1))
    refine fy_istore (i := 6) (ls2 := [some (.ref 2000), some (.ref 0), some (.ref 31), some (.ref 47), some (.int (zI i)), some (.int (zI 1)), some (.int (zI 0))]) d_LW_law_357 (by decide) rfl ?_
    refine fy_aload_n (i := 2) d_LW_law_359 rfl rfl ?_
    refine fy_callV (M' := M_MO_thrown) (B' := (0, 0)) (vs := []) (rest := []) (c1 := c0 + 1) (s1 := s0 + 6) (n := 363) d_LW_law_360 cy_MO_thrown (at_31 (h := _) ((c).hi m3).1) rfl rfl rfl hB0' (Nat.le_of_ble_eq_true rfl) (Or.inl rfl) (e_MO_thrown ((c).hi m3).1 ?_)
    rw [e3]
    refine fy_iload (i := 5) d_LW_law_363 rfl ?_
    refine fl_same (tt := 370) d_LW_law_365 ?_
    refine fy_iload (i := 5) d_LW_law_370 rfl ?_
    refine fy_if_ne (t := 387) (n := 375) d_LW_law_372 (show zR 1 by decide) (fun _ => ?_) (fun z => absurd z (by decide))
    refine fy_goto (n := 590) d_LW_law_387 ?_
    refine fy_fewer [some (.ref 2000), some (.ref 0), some (.ref 31), some (.ref 47), some (.int (zI i)), none, none] ⟨rfl, rfl, rfl, rfl, rfl, trivial⟩ ?_
    exact nx _ _ _ _ _ _ _ _ _ _ _ _ (Nat.le_refl _) (Nat.le_refl _) ((c).hi m3) (cm3)
  · refine fy_istore (i := 5) (ls2 := [some (.ref 2000), some (.ref 0), some (.ref 31), some (.ref 47), some (.int (zI i)), some (.int (zI 2)), none]) d_LW_law_325 (by decide) rfl ?_
    refine fy_aload_n (i := 2) d_LW_law_327 rfl rfl ?_
    refine fy_aload_n (i := 0) d_LW_law_328 rfl rfl ?_
    refine fy_iload (i := 4) d_LW_law_329 rfl ?_
    refine fy_iconst d_LW_law_331 ?_
    refine fy_iadd d_LW_law_332 ?_
    refine fl_sld d_LW_law_333 (by omega) (by omega) (by omega) ?_
    refine fy_aload_n (i := 0) d_LW_law_334 rfl rfl ?_
    refine fy_iload (i := 4) d_LW_law_335 rfl ?_
    refine fy_iconst d_LW_law_337 ?_
    refine fy_iadd d_LW_law_338 ?_
    refine fl_sld d_LW_law_339 (by omega) (by omega) (by omega) ?_
    refine fl_bool (tt := 347) (nB := 348) (sx_R _ _) d_LW_law_340 d_LW_law_343 d_LW_law_344 d_LW_law_347 ?_
    refine fy_aload_n (i := 0) d_LW_law_348 rfl rfl ?_
    refine fy_iload (i := 4) d_LW_law_349 rfl ?_
    refine fy_iconst d_LW_law_351 ?_
    refine fy_iadd d_LW_law_352 ?_
    refine fl_sld d_LW_law_353 (by omega) (by omega) (by omega) ?_
    refine fy_callV (M' := M_MO_write) (B' := (0, 0)) (vs := [.int (zI (sx xs (i + 1))), .int (zI (bo (sx xs (i + 2)))), .int (zI (sx xs (i + 3)))]) (rest := []) (c1 := c0 + 1) (s1 := s0 + 6) (n := 357) d_LW_law_354 cy_MO_write (at_31 (h := _) (c).1) rfl rfl rfl hB0' (Nat.le_of_ble_eq_true rfl) (Or.inl rfl) (r_write (c).1 (cm) (sx_R _ _) (sx_R _ _) (bo_01 _) (fun s9 s10 => absurd s2 s10) (fun s9 => absurd s1 s9) (fun s9 s10 h3 m3 e3 cm3 => ?_) (fun y1 y2 => absurd s2 y2))
    refine fy_istore (i := 6) (ls2 := [some (.ref 2000), some (.ref 0), some (.ref 31), some (.ref 47), some (.int (zI i)), some (.int (zI 2)), some (.int (zI 0))]) d_LW_law_357 (by decide) rfl ?_
    refine fy_aload_n (i := 2) d_LW_law_359 rfl rfl ?_
    refine fy_callV (M' := M_MO_thrown) (B' := (0, 0)) (vs := []) (rest := []) (c1 := c0 + 1) (s1 := s0 + 6) (n := 363) d_LW_law_360 cy_MO_thrown (at_31 (h := _) ((c).hi m3).1) rfl rfl rfl hB0' (Nat.le_of_ble_eq_true rfl) (Or.inl rfl) (e_MO_thrown ((c).hi m3).1 ?_)
    rw [e3]
    refine fy_iload (i := 5) d_LW_law_363 rfl ?_
    refine fl_same (tt := 370) d_LW_law_365 ?_
    refine fy_iload (i := 5) d_LW_law_370 rfl ?_
    refine fy_if_ne (t := 387) (n := 375) d_LW_law_372 (show zR 2 by decide) (fun _ => ?_) (fun z => absurd z (by decide))
    refine fy_goto (n := 590) d_LW_law_387 ?_
    refine fy_fewer [some (.ref 2000), some (.ref 0), some (.ref 31), some (.ref 47), some (.int (zI i)), none, none] ⟨rfl, rfl, rfl, rfl, rfl, trivial⟩ ?_
    exact nx _ _ _ _ _ _ _ _ _ _ _ _ (Nat.le_refl _) (Nat.le_refl _) ((c).hi m3) (cm3)
theorem law_5 (hL : Ls ≤ 2048) (hi : 0 ≤ i ∧ i + 4 ≤ Ls) (hB : c0 + 1 ≤ 601024 ∧ s0 + 6 ≤ 7293034) (htl : l.stackTraces = false) (c : CPs h a pp dd g w t f L K) (cm : MPs h g w t f L K) (nx : nxt l b Ls xs i c0 s0) : fx_U l M_LW_law LB (fx_EL l M_LW_law LB b Ls xs) c0 s0 390 [some (.ref 2000), some (.ref 0), some (.ref 31), some (.ref 47), some (.int (zI i)), none, none] [] h := by
  have hB0 : c0 + (0 : Nat) ≤ LB.1 ∧ s0 + (0 : Nat) ≤ LB.2 := ⟨by show c0 ≤ 601024; omega, by show s0 ≤ 7293034; omega⟩
  have hB0' : c0 + 1 + (0 : Nat) ≤ LB.1 ∧ s0 + 6 + (0 : Nat) ≤ LB.2 := hB
  have hK : K.1 = 0 ∨ K.1 = 1 := c.2.2.2.2.2.2.2.2.1
  obtain ⟨b5, c5⟩ := c.2.2.2.2.1
  refine fy_aload_n (i := 1) d_LW_law_390 rfl rfl ?_
  refine fy_callV (M' := M_FP_read) (B' := (0, 0)) (vs := []) (rest := []) (c1 := c0) (s1 := s0) (n := 394) d_LW_law_391 cy_FP_read (at_0 (h := _) (c).1) rfl rfl rfl hB0 (Nat.le_of_ble_eq_true rfl) (Or.inl rfl) (c_read c (fun r1 q1 h2 m2 c2 => ?_) (fun f2 q1 q2 o2 h2 m2 c2 => ?_))
  · refine fy_aload_n (i := 2) d_LW_law_394 rfl rfl ?_
    refine fy_callV (M' := M_MO_read) (B' := (0, 0)) (vs := []) (rest := [.int (zI r1)]) (c1 := c0) (s1 := s0) (n := 398) d_LW_law_395 cy_MO_read (at_31 (h := _) (c2).1) rfl rfl rfl hB0 (Nat.le_of_ble_eq_true rfl) (Or.inl rfl) (r_read (c2).1 ((cm).lo m2) (fun r2 q3 h3 m3 cm3 => ?_) (fun f3 q3 => absurd (q1.symm.trans q3) (by simp)))
    obtain rfl := Option.some.inj (q1.symm.trans q3)
    refine fl_same (tt := 590) d_LW_law_398 ?_
    refine fy_fewer [some (.ref 2000), some (.ref 0), some (.ref 31), some (.ref 47), some (.int (zI i)), none, none] ⟨rfl, rfl, rfl, rfl, rfl, trivial⟩ ?_
    exact nx _ _ _ _ _ _ _ _ _ _ _ _ (Nat.le_add_right _ _) (Nat.le_add_right _ _) ((c2).hi m3) (cm3)
  · refine fy_aload_n (i := 2) d_LW_law_394 rfl rfl ?_
    refine fy_callV (M' := M_MO_read) (B' := (0, 0)) (vs := []) (rest := [.int (zI (rmm L (hb L)))]) (c1 := c0) (s1 := s0) (n := 398) d_LW_law_395 cy_MO_read (at_31 (h := _) (c2).1) rfl rfl rfl hB0 (Nat.le_of_ble_eq_true rfl) (Or.inl rfl) (r_read (c2).1 ((cm).lo m2) (fun r2 q3 => absurd (q3.symm.trans q1) (by simp)) (fun f3 q3 q4 h3 m3 k3 => ?_))
    obtain rfl := Option.some.inj (q2.symm.trans q4)
    refine fl_same (tt := 590) d_LW_law_398 ?_
    refine fy_fewer [some (.ref 2000), some (.ref 0), some (.ref 31), some (.ref 47), some (.int (zI i)), none, none] ⟨rfl, rfl, rfl, rfl, rfl, trivial⟩ ?_
    exact nx _ _ _ _ _ _ _ _ _ _ _ _ (Nat.le_add_right _ _) (Nat.le_add_right _ _) ((c2).hi m3) (k3 o2)
theorem law_6 (hL : Ls ≤ 2048) (hi : 0 ≤ i ∧ i + 4 ≤ Ls) (hB : c0 + 1 ≤ 601024 ∧ s0 + 6 ≤ 7293034) (htl : l.stackTraces = false) (c : CPs h a pp dd g w t f L K) (cm : MPs h g w t f L K) (nx : nxt l b Ls xs i c0 s0) : fx_U l M_LW_law LB (fx_EL l M_LW_law LB b Ls xs) c0 s0 403 [some (.ref 2000), some (.ref 0), some (.ref 31), some (.ref 47), some (.int (zI i)), none, none] [] h := by
  have hB0 : c0 + (0 : Nat) ≤ LB.1 ∧ s0 + (0 : Nat) ≤ LB.2 := ⟨by show c0 ≤ 601024; omega, by show s0 ≤ 7293034; omega⟩
  have hB0' : c0 + 1 + (0 : Nat) ≤ LB.1 ∧ s0 + 6 + (0 : Nat) ≤ LB.2 := hB
  have hK : K.1 = 0 ∨ K.1 = 1 := c.2.2.2.2.2.2.2.2.1
  obtain ⟨b5, c5⟩ := c.2.2.2.2.1
  refine fy_aload_n (i := 1) d_LW_law_403 rfl rfl ?_
  refine fy_callV (M' := M_FP_size) (B' := (0, 0)) (vs := []) (rest := []) (c1 := c0) (s1 := s0) (n := 407) d_LW_law_404 cy_FP_size (at_0 (h := _) (c).1) rfl rfl rfl hB0 (Nat.le_of_ble_eq_true rfl) (Or.inl rfl) (c_size c  ?_)
  refine fy_aload_n (i := 2) d_LW_law_407 rfl rfl ?_
  refine fy_callV (M' := M_MO_size) (B' := (0, 0)) (vs := []) (rest := [.int (zI (L.length : Nat))]) (c1 := c0) (s1 := s0) (n := 411) d_LW_law_408 cy_MO_size (at_31 (h := _) (c).1) rfl rfl rfl hB0 (Nat.le_of_ble_eq_true rfl) (Or.inl rfl) (r_size (c).1 cm  ?_)
  refine fl_same (tt := 590) d_LW_law_411 ?_
  refine fy_fewer [some (.ref 2000), some (.ref 0), some (.ref 31), some (.ref 47), some (.int (zI i)), none, none] ⟨rfl, rfl, rfl, rfl, rfl, trivial⟩ ?_
  exact nx _ _ _ _ _ _ _ _ _ _ _ _ (Nat.le_add_right _ _) (Nat.le_add_right _ _) ((c).f0 (k := 0) (u := 0)) ((cm).f0 (u := 0))
theorem law_7 (hL : Ls ≤ 2048) (hi : 0 ≤ i ∧ i + 4 ≤ Ls) (hB : c0 + 1 ≤ 601024 ∧ s0 + 6 ≤ 7293034) (htl : l.stackTraces = false) (c : CPs h a pp dd g w t f L K) (cm : MPs h g w t f L K) (nx : nxt l b Ls xs i c0 s0) : fx_U l M_LW_law LB (fx_EL l M_LW_law LB b Ls xs) c0 s0 416 [some (.ref 2000), some (.ref 0), some (.ref 31), some (.ref 47), some (.int (zI i)), none, none] [] h := by
  have hB0 : c0 + (0 : Nat) ≤ LB.1 ∧ s0 + (0 : Nat) ≤ LB.2 := ⟨by show c0 ≤ 601024; omega, by show s0 ≤ 7293034; omega⟩
  have hB0' : c0 + 1 + (0 : Nat) ≤ LB.1 ∧ s0 + 6 + (0 : Nat) ≤ LB.2 := hB
  have hK : K.1 = 0 ∨ K.1 = 1 := c.2.2.2.2.2.2.2.2.1
  obtain ⟨b5, c5⟩ := c.2.2.2.2.1
  refine fy_aload_n (i := 1) d_LW_law_416 rfl rfl ?_
  refine fy_aload_n (i := 0) d_LW_law_417 rfl rfl ?_
  refine fy_iload (i := 4) d_LW_law_418 rfl ?_
  refine fy_iconst d_LW_law_420 ?_
  refine fy_iadd d_LW_law_421 ?_
  refine fl_sld d_LW_law_422 (by omega) (by omega) (by omega) ?_
  refine fy_callV (M' := M_FP_at) (B' := (0, 0)) (vs := [.int (zI (sx xs (i + 1)))]) (rest := []) (c1 := c0) (s1 := s0) (n := 426) d_LW_law_423 cy_FP_at (at_0 (h := _) (c).1) rfl rfl rfl hB0 (Nat.le_of_ble_eq_true rfl) (Or.inl rfl) (c_at c (sx_R _ _) ?_)
  refine fy_aload_n (i := 2) d_LW_law_426 rfl rfl ?_
  refine fy_aload_n (i := 0) d_LW_law_427 rfl rfl ?_
  refine fy_iload (i := 4) d_LW_law_428 rfl ?_
  refine fy_iconst d_LW_law_430 ?_
  refine fy_iadd d_LW_law_431 ?_
  refine fl_sld d_LW_law_432 (by omega) (by omega) (by omega) ?_
  refine fy_callV (M' := M_MO_at) (B' := (0, 0)) (vs := [.int (zI (sx xs (i + 1)))]) (rest := [.int (zI (atO L ((sx xs (i + 1)))))]) (c1 := c0) (s1 := s0) (n := 436) d_LW_law_433 cy_MO_at (at_31 (h := _) (c).1) rfl rfl rfl hB0 (Nat.le_of_ble_eq_true rfl) (Or.inl rfl) (r_at (c).1 cm (sx_R _ _) ?_)
  refine fl_same (tt := 590) d_LW_law_436 ?_
  refine fy_fewer [some (.ref 2000), some (.ref 0), some (.ref 31), some (.ref 47), some (.int (zI i)), none, none] ⟨rfl, rfl, rfl, rfl, rfl, trivial⟩ ?_
  exact nx _ _ _ _ _ _ _ _ _ _ _ _ (Nat.le_add_right _ _) (Nat.le_add_right _ _) ((c).f0 (k := 0) (u := 0)) ((cm).f0 (u := 0))
theorem law_8 (hL : Ls ≤ 2048) (hi : 0 ≤ i ∧ i + 4 ≤ Ls) (hB : c0 + 1 ≤ 601024 ∧ s0 + 6 ≤ 7293034) (htl : l.stackTraces = false) (c : CPs h a pp dd g w t f L K) (cm : MPs h g w t f L K) (nx : nxt l b Ls xs i c0 s0) : fx_U l M_LW_law LB (fx_EL l M_LW_law LB b Ls xs) c0 s0 441 [some (.ref 2000), some (.ref 0), some (.ref 31), some (.ref 47), some (.int (zI i)), none, none] [] h := by
  have hB0 : c0 + (0 : Nat) ≤ LB.1 ∧ s0 + (0 : Nat) ≤ LB.2 := ⟨by show c0 ≤ 601024; omega, by show s0 ≤ 7293034; omega⟩
  have hB0' : c0 + 1 + (0 : Nat) ≤ LB.1 ∧ s0 + 6 + (0 : Nat) ≤ LB.2 := hB
  have hK : K.1 = 0 ∨ K.1 = 1 := c.2.2.2.2.2.2.2.2.1
  obtain ⟨b5, c5⟩ := c.2.2.2.2.1
  refine fy_aload_n (i := 1) d_LW_law_441 rfl rfl ?_
  refine fy_aload_n (i := 0) d_LW_law_442 rfl rfl ?_
  refine fy_iload (i := 4) d_LW_law_443 rfl ?_
  refine fy_iconst d_LW_law_445 ?_
  refine fy_iadd d_LW_law_446 ?_
  refine fl_sld d_LW_law_447 (by omega) (by omega) (by omega) ?_
  refine fy_aload_n (i := 0) d_LW_law_448 rfl rfl ?_
  refine fy_iload (i := 4) d_LW_law_449 rfl ?_
  refine fy_iconst d_LW_law_451 ?_
  refine fy_iadd d_LW_law_452 ?_
  refine fl_sld d_LW_law_453 (by omega) (by omega) (by omega) ?_
  refine fy_aload_n (i := 3) d_LW_law_454 rfl rfl ?_
  refine fl_callSW (M' := M_LW_put) (hh := hh_put) (B' := (1, 6)) (vs := [.ref 0, .int (zI (sx xs (i + 1))), .int (zI (sx xs (i + 2))), .ref 47]) (rest := []) (c1 := c0 + 1) (s1 := s0 + 6) (n := 458) d_LW_law_455 wc_put i_LW p_LW_put ⟨by decide, by decide⟩ v_LW_put ll_put rfl rfl hB (Nat.le_of_ble_eq_true rfl) (Or.inr ⟨by rw [(c).1]; rfl, rfl⟩) (lwc_put c htl (sx_R _ _) (sx_R _ _) (fun s1 h2 m2 c2 => ?_) (fun s1 => ?_) (fun s1 => ?_))
  · refine fy_istore (i := 5) (ls2 := [some (.ref 2000), some (.ref 0), some (.ref 31), some (.ref 47), some (.int (zI i)), some (.int (zI 0)), none]) d_LW_law_458 (by decide) rfl ?_
    refine fy_aload_n (i := 2) d_LW_law_460 rfl rfl ?_
    refine fy_aload_n (i := 0) d_LW_law_461 rfl rfl ?_
    refine fy_iload (i := 4) d_LW_law_462 rfl ?_
    refine fy_iconst d_LW_law_464 ?_
    refine fy_iadd d_LW_law_465 ?_
    refine fl_sld d_LW_law_466 (by omega) (by omega) (by omega) ?_
    refine fy_aload_n (i := 0) d_LW_law_467 rfl rfl ?_
    refine fy_iload (i := 4) d_LW_law_468 rfl ?_
    refine fy_iconst d_LW_law_470 ?_
    refine fy_iadd d_LW_law_471 ?_
    refine fl_sld d_LW_law_472 (by omega) (by omega) (by omega) ?_
    refine fy_callV (M' := M_MO_put) (B' := (0, 0)) (vs := [.int (zI (sx xs (i + 1))), .int (zI (sx xs (i + 2)))]) (rest := []) (c1 := c0 + 1) (s1 := s0 + 6) (n := 476) d_LW_law_473 cy_MO_put (at_31 (h := _) ((show CPs (fx_uL h2 47 0 (bya L ((sx xs (i + 1))))) a pp dd g w t f (putO L ((sx xs (i + 1))) ((sx xs (i + 2)))) K from c2)).1) rfl rfl rfl hB0' (Nat.le_of_ble_eq_true rfl) (Or.inl rfl) (r_put ((show CPs (fx_uL h2 47 0 (bya L ((sx xs (i + 1))))) a pp dd g w t f (putO L ((sx xs (i + 1))) ((sx xs (i + 2)))) K from c2)).1 ((MPs.uL (p := 47) (k := 0) (bya L ((sx xs (i + 1)))) ((cm).lo (m2.mono (P2 := lo31) fun j q => by omega).v))) (sx_R _ _) (sx_R _ _) (fun s9 h3 m3 e3 cm3 => ?_) (fun s9 => absurd s1.1 s9) (fun s9 => absurd s1.2 s9.2))
    refine fy_istore (i := 6) (ls2 := [some (.ref 2000), some (.ref 0), some (.ref 31), some (.ref 47), some (.int (zI i)), some (.int (zI 0)), some (.int (zI (bya L ((sx xs (i + 1))))))]) d_LW_law_476 (by decide) rfl ?_
    refine fy_aload_n (i := 2) d_LW_law_478 rfl rfl ?_
    refine fy_callV (M' := M_MO_thrown) (B' := (0, 0)) (vs := []) (rest := []) (c1 := c0 + 1) (s1 := s0 + 6) (n := 482) d_LW_law_479 cy_MO_thrown (at_31 (h := _) (((show CPs (fx_uL h2 47 0 (bya L ((sx xs (i + 1))))) a pp dd g w t f (putO L ((sx xs (i + 1))) ((sx xs (i + 2)))) K from c2)).hi m3).1) rfl rfl rfl hB0' (Nat.le_of_ble_eq_true rfl) (Or.inl rfl) (e_MO_thrown (((show CPs (fx_uL h2 47 0 (bya L ((sx xs (i + 1))))) a pp dd g w t f (putO L ((sx xs (i + 1))) ((sx xs (i + 2)))) K from c2)).hi m3).1 ?_)
    rw [e3]
    refine fy_iload (i := 5) d_LW_law_482 rfl ?_
    refine fl_same (tt := 489) d_LW_law_484 ?_
    refine fy_iload (i := 5) d_LW_law_489 rfl ?_
    refine fy_if_ne (t := 506) (n := 494) d_LW_law_491 (show zR 0 by decide) (fun z => absurd rfl z) (fun _ => ?_)
    refine fy_aload_n (i := 3) d_LW_law_494 rfl rfl ?_
    refine fy_iconst d_LW_law_495 ?_
    refine fy_lald (n0 := 1) d_LW_law_496 (at_47 (h := _) (((show CPs (fx_uL h2 47 0 (bya L ((sx xs (i + 1))))) a pp dd g w t f (putO L ((sx xs (i + 1))) ((sx xs (i + 2)))) K from c2)).hi m3).1) (by decide) (by decide) (by decide) ?_
    rw [show (h3).2.2.2 47 (Int.toNat 0) = (bya L ((sx xs (i + 1)))) from ((m3.2.2.2 47 0 (by omega)).trans uL_at)]
    refine fy_iload (i := 6) d_LW_law_497 rfl ?_
    refine fy_i2l d_LW_law_499 (by have := bya_R c5.2.2.2.2 (sx xs (i + 1)); omega) ?_
    refine fy_lcmp d_LW_law_500 (by have := bya_R c5.2.2.2.2 (sx xs (i + 1)); omega) (by have := bya_R c5.2.2.2.2 (sx xs (i + 1)); omega) ?_
    refine fy_if_eq (t := 506) (n := 504) d_LW_law_501 (zC_R _ _) (fun _ => ?_) (fun z => absurd (zC_0.mpr rfl) z)
    refine fy_goto (n := 590) d_LW_law_506 ?_
    refine fy_fewer [some (.ref 2000), some (.ref 0), some (.ref 31), some (.ref 47), some (.int (zI i)), none, none] ⟨rfl, rfl, rfl, rfl, rfl, trivial⟩ ?_
    exact nx _ _ _ _ _ _ _ _ _ _ _ _ (Nat.le_refl _) (Nat.le_refl _) (((show CPs (fx_uL h2 47 0 (bya L ((sx xs (i + 1))))) a pp dd g w t f (putO L ((sx xs (i + 1))) ((sx xs (i + 2)))) K from c2)).hi m3) (cm3)
  · refine fy_istore (i := 5) (ls2 := [some (.ref 2000), some (.ref 0), some (.ref 31), some (.ref 47), some (.int (zI i)), some (.int (zI 1)), none]) d_LW_law_458 (by decide) rfl ?_
    refine fy_aload_n (i := 2) d_LW_law_460 rfl rfl ?_
    refine fy_aload_n (i := 0) d_LW_law_461 rfl rfl ?_
    refine fy_iload (i := 4) d_LW_law_462 rfl ?_
    refine fy_iconst d_LW_law_464 ?_
    refine fy_iadd d_LW_law_465 ?_
    refine fl_sld d_LW_law_466 (by omega) (by omega) (by omega) ?_
    refine fy_aload_n (i := 0) d_LW_law_467 rfl rfl ?_
    refine fy_iload (i := 4) d_LW_law_468 rfl ?_
    refine fy_iconst d_LW_law_470 ?_
    refine fy_iadd d_LW_law_471 ?_
    refine fl_sld d_LW_law_472 (by omega) (by omega) (by omega) ?_
    refine fy_callV (M' := M_MO_put) (B' := (0, 0)) (vs := [.int (zI (sx xs (i + 1))), .int (zI (sx xs (i + 2)))]) (rest := []) (c1 := c0 + 1) (s1 := s0 + 6) (n := 476) d_LW_law_473 cy_MO_put (at_31 (h := _) (c).1) rfl rfl rfl hB0' (Nat.le_of_ble_eq_true rfl) (Or.inl rfl) (r_put (c).1 (cm) (sx_R _ _) (sx_R _ _) (fun s9 => absurd s9.1 s1) (fun s9 h3 m3 e3 cm3 => ?_) (fun s9 => absurd s9.1 s1))
    refine fy_istore (i := 6) (ls2 := [some (.ref 2000), some (.ref 0), some (.ref 31), some (.ref 47), some (.int (zI i)), some (.int (zI 1)), some (.int (zI 0))]) d_LW_law_476 (by decide) rfl ?_
    refine fy_aload_n (i := 2) d_LW_law_478 rfl rfl ?_
    refine fy_callV (M' := M_MO_thrown) (B' := (0, 0)) (vs := []) (rest := []) (c1 := c0 + 1) (s1 := s0 + 6) (n := 482) d_LW_law_479 cy_MO_thrown (at_31 (h := _) ((c).hi m3).1) rfl rfl rfl hB0' (Nat.le_of_ble_eq_true rfl) (Or.inl rfl) (e_MO_thrown ((c).hi m3).1 ?_)
    rw [e3]
    refine fy_iload (i := 5) d_LW_law_482 rfl ?_
    refine fl_same (tt := 489) d_LW_law_484 ?_
    refine fy_iload (i := 5) d_LW_law_489 rfl ?_
    refine fy_if_ne (t := 506) (n := 494) d_LW_law_491 (show zR 1 by decide) (fun _ => ?_) (fun z => absurd z (by decide))
    refine fy_goto (n := 590) d_LW_law_506 ?_
    refine fy_fewer [some (.ref 2000), some (.ref 0), some (.ref 31), some (.ref 47), some (.int (zI i)), none, none] ⟨rfl, rfl, rfl, rfl, rfl, trivial⟩ ?_
    exact nx _ _ _ _ _ _ _ _ _ _ _ _ (Nat.le_refl _) (Nat.le_refl _) ((c).hi m3) (cm3)
  · refine fy_istore (i := 5) (ls2 := [some (.ref 2000), some (.ref 0), some (.ref 31), some (.ref 47), some (.int (zI i)), some (.int (zI 2)), none]) d_LW_law_458 (by decide) rfl ?_
    refine fy_aload_n (i := 2) d_LW_law_460 rfl rfl ?_
    refine fy_aload_n (i := 0) d_LW_law_461 rfl rfl ?_
    refine fy_iload (i := 4) d_LW_law_462 rfl ?_
    refine fy_iconst d_LW_law_464 ?_
    refine fy_iadd d_LW_law_465 ?_
    refine fl_sld d_LW_law_466 (by omega) (by omega) (by omega) ?_
    refine fy_aload_n (i := 0) d_LW_law_467 rfl rfl ?_
    refine fy_iload (i := 4) d_LW_law_468 rfl ?_
    refine fy_iconst d_LW_law_470 ?_
    refine fy_iadd d_LW_law_471 ?_
    refine fl_sld d_LW_law_472 (by omega) (by omega) (by omega) ?_
    refine fy_callV (M' := M_MO_put) (B' := (0, 0)) (vs := [.int (zI (sx xs (i + 1))), .int (zI (sx xs (i + 2)))]) (rest := []) (c1 := c0 + 1) (s1 := s0 + 6) (n := 476) d_LW_law_473 cy_MO_put (at_31 (h := _) (c).1) rfl rfl rfl hB0' (Nat.le_of_ble_eq_true rfl) (Or.inl rfl) (r_put (c).1 (cm) (sx_R _ _) (sx_R _ _) (fun s9 => absurd s9.2 s1.2) (fun s9 => absurd s1.1 s9) (fun s9 h3 m3 e3 cm3 => ?_))
    refine fy_istore (i := 6) (ls2 := [some (.ref 2000), some (.ref 0), some (.ref 31), some (.ref 47), some (.int (zI i)), some (.int (zI 2)), some (.int (zI 0))]) d_LW_law_476 (by decide) rfl ?_
    refine fy_aload_n (i := 2) d_LW_law_478 rfl rfl ?_
    refine fy_callV (M' := M_MO_thrown) (B' := (0, 0)) (vs := []) (rest := []) (c1 := c0 + 1) (s1 := s0 + 6) (n := 482) d_LW_law_479 cy_MO_thrown (at_31 (h := _) ((c).hi m3).1) rfl rfl rfl hB0' (Nat.le_of_ble_eq_true rfl) (Or.inl rfl) (e_MO_thrown ((c).hi m3).1 ?_)
    rw [e3]
    refine fy_iload (i := 5) d_LW_law_482 rfl ?_
    refine fl_same (tt := 489) d_LW_law_484 ?_
    refine fy_iload (i := 5) d_LW_law_489 rfl ?_
    refine fy_if_ne (t := 506) (n := 494) d_LW_law_491 (show zR 2 by decide) (fun _ => ?_) (fun z => absurd z (by decide))
    refine fy_goto (n := 590) d_LW_law_506 ?_
    refine fy_fewer [some (.ref 2000), some (.ref 0), some (.ref 31), some (.ref 47), some (.int (zI i)), none, none] ⟨rfl, rfl, rfl, rfl, rfl, trivial⟩ ?_
    exact nx _ _ _ _ _ _ _ _ _ _ _ _ (Nat.le_refl _) (Nat.le_refl _) ((c).hi m3) (cm3)
theorem law_9 (hL : Ls ≤ 2048) (hi : 0 ≤ i ∧ i + 4 ≤ Ls) (hB : c0 + 1 ≤ 601024 ∧ s0 + 6 ≤ 7293034) (htl : l.stackTraces = false) (c : CPs h a pp dd g w t f L K) (cm : MPs h g w t f L K) (nx : nxt l b Ls xs i c0 s0) : fx_U l M_LW_law LB (fx_EL l M_LW_law LB b Ls xs) c0 s0 509 [some (.ref 2000), some (.ref 0), some (.ref 31), some (.ref 47), some (.int (zI i)), none, none] [] h := by
  have hB0 : c0 + (0 : Nat) ≤ LB.1 ∧ s0 + (0 : Nat) ≤ LB.2 := ⟨by show c0 ≤ 601024; omega, by show s0 ≤ 7293034; omega⟩
  have hB0' : c0 + 1 + (0 : Nat) ≤ LB.1 ∧ s0 + 6 + (0 : Nat) ≤ LB.2 := hB
  have hK : K.1 = 0 ∨ K.1 = 1 := c.2.2.2.2.2.2.2.2.1
  obtain ⟨b5, c5⟩ := c.2.2.2.2.1
  refine fy_aload_n (i := 1) d_LW_law_509 rfl rfl ?_
  refine fy_aload_n (i := 0) d_LW_law_510 rfl rfl ?_
  refine fy_iload (i := 4) d_LW_law_511 rfl ?_
  refine fy_iconst d_LW_law_513 ?_
  refine fy_iadd d_LW_law_514 ?_
  refine fl_sld d_LW_law_515 (by omega) (by omega) (by omega) ?_
  refine fy_callV (M' := M_FP_add) (B' := (0, 0)) (vs := [.int (zI (sx xs (i + 1)))]) (rest := []) (c1 := c0) (s1 := s0) (n := 519) d_LW_law_516 cy_FP_add (at_0 (h := _) (c).1) rfl rfl rfl hB0 (Nat.le_of_ble_eq_true rfl) (Or.inl rfl) (c_add c (sx_R _ _) (fun s1 h2 m2 c2 => ?_) (fun s1 => ?_))
  · refine fy_aload_n (i := 2) d_LW_law_519 rfl rfl ?_
    refine fy_aload_n (i := 0) d_LW_law_520 rfl rfl ?_
    refine fy_iload (i := 4) d_LW_law_521 rfl ?_
    refine fy_iconst d_LW_law_523 ?_
    refine fy_iadd d_LW_law_524 ?_
    refine fl_sld d_LW_law_525 (by omega) (by omega) (by omega) ?_
    refine fy_callV (M' := M_MO_add) (B' := (0, 0)) (vs := [.int (zI (sx xs (i + 1)))]) (rest := [.int (zI 1)]) (c1 := c0) (s1 := s0) (n := 529) d_LW_law_526 cy_MO_add (at_31 (h := _) (c2).1) rfl rfl rfl hB0 (Nat.le_of_ble_eq_true rfl) (Or.inl rfl) (r_add (c2).1 ((cm).lo (m2.mono (P2 := lo31) fun j q => by omega).v) (sx_R _ _) (fun s9 h3 m3 cm3 => ?_) (fun s9 => absurd s1 s9))
    refine fl_same (tt := 590) d_LW_law_529 ?_
    refine fy_fewer [some (.ref 2000), some (.ref 0), some (.ref 31), some (.ref 47), some (.int (zI i)), none, none] ⟨rfl, rfl, rfl, rfl, rfl, trivial⟩ ?_
    exact nx _ _ _ _ _ _ _ _ _ _ _ _ (Nat.le_add_right _ _) (Nat.le_add_right _ _) ((c2).hi m3) (cm3)
  · refine fy_aload_n (i := 2) d_LW_law_519 rfl rfl ?_
    refine fy_aload_n (i := 0) d_LW_law_520 rfl rfl ?_
    refine fy_iload (i := 4) d_LW_law_521 rfl ?_
    refine fy_iconst d_LW_law_523 ?_
    refine fy_iadd d_LW_law_524 ?_
    refine fl_sld d_LW_law_525 (by omega) (by omega) (by omega) ?_
    refine fy_callV (M' := M_MO_add) (B' := (0, 0)) (vs := [.int (zI (sx xs (i + 1)))]) (rest := [.int (zI 0)]) (c1 := c0) (s1 := s0) (n := 529) d_LW_law_526 cy_MO_add (at_31 (h := _) (c).1) rfl rfl rfl hB0 (Nat.le_of_ble_eq_true rfl) (Or.inl rfl) (r_add (c).1 (cm) (sx_R _ _) (fun s9 => absurd s9 s1) (fun s9 h3 m3 cm3 => ?_))
    refine fl_same (tt := 590) d_LW_law_529 ?_
    refine fy_fewer [some (.ref 2000), some (.ref 0), some (.ref 31), some (.ref 47), some (.int (zI i)), none, none] ⟨rfl, rfl, rfl, rfl, rfl, trivial⟩ ?_
    exact nx _ _ _ _ _ _ _ _ _ _ _ _ (Nat.le_add_right _ _) (Nat.le_add_right _ _) ((c).hi m3) (cm3)
theorem law_10 (hL : Ls ≤ 2048) (hi : 0 ≤ i ∧ i + 4 ≤ Ls) (hB : c0 + 1 ≤ 601024 ∧ s0 + 6 ≤ 7293034) (htl : l.stackTraces = false) (c : CPs h a pp dd g w t f L K) (cm : MPs h g w t f L K) (nx : nxt l b Ls xs i c0 s0) : fx_U l M_LW_law LB (fx_EL l M_LW_law LB b Ls xs) c0 s0 534 [some (.ref 2000), some (.ref 0), some (.ref 31), some (.ref 47), some (.int (zI i)), none, none] [] h := by
  have hB0 : c0 + (0 : Nat) ≤ LB.1 ∧ s0 + (0 : Nat) ≤ LB.2 := ⟨by show c0 ≤ 601024; omega, by show s0 ≤ 7293034; omega⟩
  have hB0' : c0 + 1 + (0 : Nat) ≤ LB.1 ∧ s0 + 6 + (0 : Nat) ≤ LB.2 := hB
  have hK : K.1 = 0 ∨ K.1 = 1 := c.2.2.2.2.2.2.2.2.1
  obtain ⟨b5, c5⟩ := c.2.2.2.2.1
  refine fy_aload_n (i := 1) d_LW_law_534 rfl rfl ?_
  refine fy_aload_n (i := 0) d_LW_law_535 rfl rfl ?_
  refine fy_iload (i := 4) d_LW_law_536 rfl ?_
  refine fy_iconst d_LW_law_538 ?_
  refine fy_iadd d_LW_law_539 ?_
  refine fl_sld d_LW_law_540 (by omega) (by omega) (by omega) ?_
  refine fy_aload_n (i := 3) d_LW_law_541 rfl rfl ?_
  refine fl_callSW (M' := M_LW_cut) (hh := hh_cut) (B' := (1, 6)) (vs := [.ref 0, .int (zI (sx xs (i + 1))), .ref 47]) (rest := []) (c1 := c0 + 1) (s1 := s0 + 6) (n := 545) d_LW_law_542 wc_cut i_LW p_LW_cut ⟨by decide, by decide⟩ v_LW_cut ll_cut rfl rfl hB (Nat.le_of_ble_eq_true rfl) (Or.inr ⟨by rw [(c).1]; rfl, rfl⟩) (lwc_cut c htl (sx_R _ _) (fun s1 h2 m2 c2 => ?_) (fun s1 => ?_))
  · refine fy_istore (i := 5) (ls2 := [some (.ref 2000), some (.ref 0), some (.ref 31), some (.ref 47), some (.int (zI i)), some (.int (zI 0)), none]) d_LW_law_545 (by decide) rfl ?_
    refine fy_aload_n (i := 2) d_LW_law_547 rfl rfl ?_
    refine fy_aload_n (i := 0) d_LW_law_548 rfl rfl ?_
    refine fy_iload (i := 4) d_LW_law_549 rfl ?_
    refine fy_iconst d_LW_law_551 ?_
    refine fy_iadd d_LW_law_552 ?_
    refine fl_sld d_LW_law_553 (by omega) (by omega) (by omega) ?_
    refine fy_callV (M' := M_MO_cut) (B' := (0, 0)) (vs := [.int (zI (sx xs (i + 1)))]) (rest := []) (c1 := c0 + 1) (s1 := s0 + 6) (n := 557) d_LW_law_554 cy_MO_cut (at_31 (h := _) ((show CPs (fx_uL h2 47 0 ((L.length : Int) - (L.take (Int.toNat ((sx xs (i + 1))))).length)) a pp dd g w t f (L.take (Int.toNat ((sx xs (i + 1))))) K from c2)).1) rfl rfl rfl hB0' (Nat.le_of_ble_eq_true rfl) (Or.inl rfl) (r_cut ((show CPs (fx_uL h2 47 0 ((L.length : Int) - (L.take (Int.toNat ((sx xs (i + 1))))).length)) a pp dd g w t f (L.take (Int.toNat ((sx xs (i + 1))))) K from c2)).1 ((MPs.uL (p := 47) (k := 0) ((L.length : Int) - (L.take (Int.toNat ((sx xs (i + 1))))).length) ((cm).lo (m2.mono (P2 := lo31) fun j q => by omega).v))) (sx_R _ _) (fun s9 h3 m3 e3 cm3 => ?_) (fun s9 => absurd s1 (Int.not_le.mpr s9)))
    refine fy_istore (i := 6) (ls2 := [some (.ref 2000), some (.ref 0), some (.ref 31), some (.ref 47), some (.int (zI i)), some (.int (zI 0)), some (.int (zI ((L.length : Int) - (L.take (Int.toNat ((sx xs (i + 1))))).length)))]) d_LW_law_557 (by decide) rfl ?_
    refine fy_aload_n (i := 2) d_LW_law_559 rfl rfl ?_
    refine fy_callV (M' := M_MO_thrown) (B' := (0, 0)) (vs := []) (rest := []) (c1 := c0 + 1) (s1 := s0 + 6) (n := 563) d_LW_law_560 cy_MO_thrown (at_31 (h := _) (((show CPs (fx_uL h2 47 0 ((L.length : Int) - (L.take (Int.toNat ((sx xs (i + 1))))).length)) a pp dd g w t f (L.take (Int.toNat ((sx xs (i + 1))))) K from c2)).hi m3).1) rfl rfl rfl hB0' (Nat.le_of_ble_eq_true rfl) (Or.inl rfl) (e_MO_thrown (((show CPs (fx_uL h2 47 0 ((L.length : Int) - (L.take (Int.toNat ((sx xs (i + 1))))).length)) a pp dd g w t f (L.take (Int.toNat ((sx xs (i + 1))))) K from c2)).hi m3).1 ?_)
    rw [e3]
    refine fy_iload (i := 5) d_LW_law_563 rfl ?_
    refine fl_same (tt := 570) d_LW_law_565 ?_
    refine fy_iload (i := 5) d_LW_law_570 rfl ?_
    refine fy_if_ne (t := 587) (n := 575) d_LW_law_572 (show zR 0 by decide) (fun z => absurd rfl z) (fun _ => ?_)
    refine fy_aload_n (i := 3) d_LW_law_575 rfl rfl ?_
    refine fy_iconst d_LW_law_576 ?_
    refine fy_lald (n0 := 1) d_LW_law_577 (at_47 (h := _) (((show CPs (fx_uL h2 47 0 ((L.length : Int) - (L.take (Int.toNat ((sx xs (i + 1))))).length)) a pp dd g w t f (L.take (Int.toNat ((sx xs (i + 1))))) K from c2)).hi m3).1) (by decide) (by decide) (by decide) ?_
    rw [show (h3).2.2.2 47 (Int.toNat 0) = ((L.length : Int) - (L.take (Int.toNat ((sx xs (i + 1))))).length) from ((m3.2.2.2 47 0 (by omega)).trans uL_at)]
    refine fy_iload (i := 6) d_LW_law_578 rfl ?_
    refine fy_i2l d_LW_law_580 (by have := (⟨(List.take_sublist (Int.toNat (sx xs (i + 1))) L).length_le, c5.2.2.2.1⟩ : _ ∧ _); omega) ?_
    refine fy_lcmp d_LW_law_581 (by have := (⟨(List.take_sublist (Int.toNat (sx xs (i + 1))) L).length_le, c5.2.2.2.1⟩ : _ ∧ _); omega) (by have := (⟨(List.take_sublist (Int.toNat (sx xs (i + 1))) L).length_le, c5.2.2.2.1⟩ : _ ∧ _); omega) ?_
    refine fy_if_eq (t := 587) (n := 585) d_LW_law_582 (zC_R _ _) (fun _ => ?_) (fun z => absurd (zC_0.mpr rfl) z)
    refine fy_goto (n := 590) d_LW_law_587 ?_
    refine fy_fewer [some (.ref 2000), some (.ref 0), some (.ref 31), some (.ref 47), some (.int (zI i)), none, none] ⟨rfl, rfl, rfl, rfl, rfl, trivial⟩ ?_
    exact nx _ _ _ _ _ _ _ _ _ _ _ _ (Nat.le_refl _) (Nat.le_refl _) (((show CPs (fx_uL h2 47 0 ((L.length : Int) - (L.take (Int.toNat ((sx xs (i + 1))))).length)) a pp dd g w t f (L.take (Int.toNat ((sx xs (i + 1))))) K from c2)).hi m3) (cm3)
  · refine fy_istore (i := 5) (ls2 := [some (.ref 2000), some (.ref 0), some (.ref 31), some (.ref 47), some (.int (zI i)), some (.int (zI 1)), none]) d_LW_law_545 (by decide) rfl ?_
    refine fy_aload_n (i := 2) d_LW_law_547 rfl rfl ?_
    refine fy_aload_n (i := 0) d_LW_law_548 rfl rfl ?_
    refine fy_iload (i := 4) d_LW_law_549 rfl ?_
    refine fy_iconst d_LW_law_551 ?_
    refine fy_iadd d_LW_law_552 ?_
    refine fl_sld d_LW_law_553 (by omega) (by omega) (by omega) ?_
    refine fy_callV (M' := M_MO_cut) (B' := (0, 0)) (vs := [.int (zI (sx xs (i + 1)))]) (rest := []) (c1 := c0 + 1) (s1 := s0 + 6) (n := 557) d_LW_law_554 cy_MO_cut (at_31 (h := _) (c).1) rfl rfl rfl hB0' (Nat.le_of_ble_eq_true rfl) (Or.inl rfl) (r_cut (c).1 (cm) (sx_R _ _) (fun s9 => absurd s9 (Int.not_le.mpr s1)) (fun s9 h3 m3 e3 cm3 => ?_))
    refine fy_istore (i := 6) (ls2 := [some (.ref 2000), some (.ref 0), some (.ref 31), some (.ref 47), some (.int (zI i)), some (.int (zI 1)), some (.int (zI 0))]) d_LW_law_557 (by decide) rfl ?_
    refine fy_aload_n (i := 2) d_LW_law_559 rfl rfl ?_
    refine fy_callV (M' := M_MO_thrown) (B' := (0, 0)) (vs := []) (rest := []) (c1 := c0 + 1) (s1 := s0 + 6) (n := 563) d_LW_law_560 cy_MO_thrown (at_31 (h := _) ((c).hi m3).1) rfl rfl rfl hB0' (Nat.le_of_ble_eq_true rfl) (Or.inl rfl) (e_MO_thrown ((c).hi m3).1 ?_)
    rw [e3]
    refine fy_iload (i := 5) d_LW_law_563 rfl ?_
    refine fl_same (tt := 570) d_LW_law_565 ?_
    refine fy_iload (i := 5) d_LW_law_570 rfl ?_
    refine fy_if_ne (t := 587) (n := 575) d_LW_law_572 (show zR 1 by decide) (fun _ => ?_) (fun z => absurd z (by decide))
    refine fy_goto (n := 590) d_LW_law_587 ?_
    refine fy_fewer [some (.ref 2000), some (.ref 0), some (.ref 31), some (.ref 47), some (.int (zI i)), none, none] ⟨rfl, rfl, rfl, rfl, rfl, trivial⟩ ?_
    exact nx _ _ _ _ _ _ _ _ _ _ _ _ (Nat.le_refl _) (Nat.le_refl _) ((c).hi m3) (cm3)
end LWC
