/-! the law's loop -/
section LWD
variable {l : Launch} {b Ls : Nat} {xs : Nat → Int32}
theorem law_loop (hL : Ls ≤ 2048) (htl : l.stackTraces = false) : ∀ (n j : Nat) (i : Int) (h : fx_H) (a : Nat → Nat) (pp dd : Nat) (g w t : Int) (f : Int → Int → Int) (L : List Int) (K : Int × Int × Int × Int × Int), i = 4 * (j : Int) → (Ls : Int) < 4 * ((j : Int) + n) + 4 → j ≤ 512 → CPs h a pp dd g w t f L K → MPs h g w t f L K →
    fx_U l M_LW_law LB (fx_EL l M_LW_law LB b Ls xs) (48 + j) (14124 + 6 * j) 23 [some (.ref 2000), some (.ref 0), some (.ref 31), some (.ref 47), some (.int (zI i)), none, none] [] h := by
  intro n
  induction n with
  | zero =>
    intro j i h a pp dd g w t f L K hi hn hj c cm
    refine fy_iload (i := 4) d_LW_law_23 rfl ?_
    refine fy_aload_n (i := 0) d_LW_law_25 rfl rfl ?_
    refine fl_slen (v := (Ls : Int)) d_LW_law_26 rfl ?_
    refine fy_iconst d_LW_law_27 ?_
    refine fy_isub d_LW_law_28 ?_
    refine fy_icmp_gt (t := 596) (n := 32) d_LW_law_29 (by omega) (by omega) (fun _ => ?_) (fun z => by omega)
    refine fy_iconst d_LW_law_596 ?_
    exact fl_end d_LW_law_597 (by show 48 + j ≤ 601024; omega) (by show 14124 + 6 * j ≤ 7293034; omega)
  | succ n ih =>
    intro j i h a pp dd g w t f L K hi hn hj c cm
    refine fy_iload (i := 4) d_LW_law_23 rfl ?_
    refine fy_aload_n (i := 0) d_LW_law_25 rfl rfl ?_
    refine fl_slen (v := (Ls : Int)) d_LW_law_26 rfl ?_
    refine fy_iconst d_LW_law_27 ?_
    refine fy_isub d_LW_law_28 ?_
    refine fy_icmp_gt (t := 596) (n := 32) d_LW_law_29 (by omega) (by omega) (fun _ => ?_) (fun z => ?_)
    · refine fy_iconst d_LW_law_596 ?_
      exact fl_end d_LW_law_597 (by show 48 + j ≤ 601024; omega) (by show 14124 + 6 * j ≤ 7293034; omega)
    have hi4 : 0 ≤ i ∧ i + 4 ≤ Ls := by omega
    have hBB : (48 + j) + 1 ≤ 601024 ∧ (14124 + 6 * j) + 6 ≤ 7293034 := by omega
    have nx : nxt l b Ls xs i (48 + j) (14124 + 6 * j) := by
      intro h2 a2 p2 d2 g2 w2 t2 f2 L2 K2 c1 s1 hc hs cc mm
      refine fy_iinc (v := i + 4) (ls2 := [some (.ref 2000), some (.ref 0), some (.ref 31), some (.ref 47), some (.int (zI (i + 4))), none, none]) d_LW_law_590 rfl rfl (by decide) rfl ?_
      refine fy_goto (n := 23) d_LW_law_593 ?_
      exact fy_widen (c1 := 48 + (j + 1)) (s1 := 14124 + 6 * (j + 1)) (by omega) (by omega) (ih (j + 1) (i + 4) h2 a2 p2 d2 g2 w2 t2 f2 L2 K2 (by omega) (by omega) (by omega) cc mm)
    refine fy_aload_n (i := 0) d_LW_law_32 rfl rfl ?_
    refine fy_iload (i := 4) d_LW_law_33 rfl ?_
    refine fl_sld d_LW_law_35 (by omega) (by omega) (by omega) ?_
    refine fy_bipush (v := 15) d_LW_law_36 rfl ?_
    refine fy_and15 d_LW_law_38 ?_
    have hv : 0 ≤ sx xs i % 16 ∧ sx xs i % 16 < 16 := by omega
    generalize sx xs i % 16 = v at hv ⊢
    by_cases hv2 : 10 < v
    · refine fy_tableOut (n := 590) d_LW_law_39 (by omega) (Or.inr hv2) ?_
      exact nx h a pp dd g w t f L K _ _ (by omega) (by omega) c cm
    have hv3 : v = 0 ∨ v = 1 ∨ v = 2 ∨ v = 3 ∨ v = 4 ∨ v = 5 ∨ v = 6 ∨ v = 7 ∨ v = 8 ∨ v = 9 ∨ v = 10 := by omega
    rcases hv3 with rfl | rfl | rfl | rfl | rfl | rfl | rfl | rfl | rfl | rfl | rfl
    · refine fy_tableIn (n := 96) (off := 57) d_LW_law_39 (by omega) (by omega) (by omega) rfl ?_
      exact law_0 hL hi4 hBB htl c cm nx
    · refine fy_tableIn (n := 172) (off := 133) d_LW_law_39 (by omega) (by omega) (by omega) rfl ?_
      exact law_1 hL hi4 hBB htl c cm nx
    · refine fy_tableIn (n := 232) (off := 193) d_LW_law_39 (by omega) (by omega) (by omega) rfl ?_
      exact law_2 hL hi4 hBB htl c cm nx
    · refine fy_tableIn (n := 269) (off := 230) d_LW_law_39 (by omega) (by omega) (by omega) rfl ?_
      exact law_3 hL hi4 hBB htl c cm nx
    · refine fy_tableIn (n := 294) (off := 255) d_LW_law_39 (by omega) (by omega) (by omega) rfl ?_
      exact law_4 hL hi4 hBB htl c cm nx
    · refine fy_tableIn (n := 390) (off := 351) d_LW_law_39 (by omega) (by omega) (by omega) rfl ?_
      exact law_5 hL hi4 hBB htl c cm nx
    · refine fy_tableIn (n := 403) (off := 364) d_LW_law_39 (by omega) (by omega) (by omega) rfl ?_
      exact law_6 hL hi4 hBB htl c cm nx
    · refine fy_tableIn (n := 416) (off := 377) d_LW_law_39 (by omega) (by omega) (by omega) rfl ?_
      exact law_7 hL hi4 hBB htl c cm nx
    · refine fy_tableIn (n := 441) (off := 402) d_LW_law_39 (by omega) (by omega) (by omega) rfl ?_
      exact law_8 hL hi4 hBB htl c cm nx
    · refine fy_tableIn (n := 509) (off := 470) d_LW_law_39 (by omega) (by omega) (by omega) rfl ?_
      exact law_9 hL hi4 hBB htl c cm nx
    · refine fy_tableIn (n := 534) (off := 495) d_LW_law_39 (by omega) (by omega) (by omega) rfl ?_
      exact law_10 hL hi4 hBB htl c cm nx
end LWD
