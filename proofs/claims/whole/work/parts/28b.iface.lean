/-! a call through the interface Packing, on a receiver whose kind is known -/
def fx_cF (M M' : fx_M) (x : MethodName) (ix np : Nat) : Prop := fx_cB M M' np ∧ Cond.methodLink M.1.cls ix x ∈ fx_tb ∧ Cond.selects M'.1.cls x M'.1 ∈ fx_tb ∧ Cond.instanceMethod M'.1 ∈ fx_tb ∧
  (Cond.declares x ∈ fx_xw ∧ Cond.interfaceMethod x.cls x.cls x.name x.desc ∈ fx_xw ∧ Cond.publicMethod M'.1 ∈ fx_xw ∧ Cond.unhidden M'.1.cls x.name x.desc ∈ fx_xw ∧ Cond.castable M'.1.cls x.cls ∈ fx_xw) ∧
  (x.cls ≠ "java/lang/invoke/MethodHandle" ∧ x.cls ≠ "java/lang/invoke/VarHandle" ∧ (parseMethodDescriptor x.desc).map (fun d => d.parameters.length) = some np)
theorem fx_callF {l : Launch} {M M' : fx_M} {B B' : Nat × Nat} {Q : Option Value → fx_H → Prop} {c0 s0 c1 s1 pc n ix np cnt : Nat} {ls : List (Option Value)} {st rest vs : List Value} {h : fx_H} {x : MethodName} {b0 a ci : Nat} {rs : List (Option Nat)} (d : decode M.2.1 pc = .ok (.invokeinterface ix cnt, 5)) (hc : fx_cF M M' x ix np) (hq : h.1[b0]? = some (a, .inl (ci, rs))) (hcl : (fx_cl[ci]?).map (fun q => q.1) = some M'.1.cls) (hnp : vs.length = np) (hst : vs.reverse ++ .ref b0 :: rest = st)
    (hB : c0 + B'.1 ≤ B.1 ∧ s0 + B'.2 ≤ B.2) (hw : (rest.map fun v => v.category).sum ≤ 8) (hlv : B'.1 = 0 ∨ (fx_okl h.1.length ls = true ∧ rest.all (fx_okr h.1.length) = true)) (hM : fx_Mt l M' B' (.ref b0 :: vs) h (fun v h2 => fx_V l M B Q c1 s1 n ls (v.toList ++ rest) h2)) (hn : pc + 5 = n := by rfl) (hc1 : c0 + B'.1 = c1 := by rfl) (hs1 : s0 + B'.2 = s1 := by rfl) : fx_V l M B Q c0 s0 pc ls st h := by
  subst hn; subst hst; subst hc1; subst hs1
  intro p e R s m args below meth c A D g tb S0 QQ hX hE H locs la hP hS hG hL
  obtain ⟨hx, hb, hml, hown, hts, hK, hA, hSt, hRm, hnm, hxw⟩ := id hX
  obtain ⟨hcB, hlink, hsel, hinst, ⟨f1, f2, f3, f4, f5⟩, hd⟩ := hc
  cases hv : fx_cl[ci]? with
  | none => rw [hv] at hcl; cases hcl
  | some q =>
    rw [hv] at hcl
    have hq1 : q.1 = M'.1.cls := Option.some.inj hcl
    have hr := va_recv hK hP.1 hv (fx_ws_at (g := g) (tb := tb) hq)
    rw [hq1] at hr
    have hat := (hK.1 ci q hv).2
    rw [hq1] at hat
    have ha : fx_cv tb h.1 (.ref b0) = .ref a := by simp only [fx_cv, fx_ad_at hq]
    have hpre := fx_pre (l := l) (Q := Q) (c0 := c0) (vs := .ref b0 :: vs) hX hP hS
    rw [List.map_cons, ha] at hpre
    have hM2 := hM D g tb H.size
    rw [List.map_cons, ha] at hM2
    have hstk : (vs.reverse ++ .ref b0 :: rest).map (fx_cv tb h.1) = (vs.map (fx_cv tb h.1)).reverse ++ .ref a :: rest.map (fx_cv tb h.1) := by
      rw [List.map_append, List.map_cons, ha, List.map_reverse]
    rw [hstk]
    refine fx_core (ln := 5) (B' := B') (rest := rest) (a := (Value.ref a :: vs.map (fx_cv tb h.1)).toArray) hX hE hP hS hG hL hlv ?_ (fun v h2 hv => hv)
    obtain ⟨h1, h2, h3, h4, h5⟩ := hcB
    have hgd : GoodIn fx_tb (va_wsF M.1.cls ix M'.1.cls x M'.1 (fx_wd M')) := by
      intro w hw
      rcases List.mem_append.mp hw with hw | hw
      · simp only [List.mem_cons, List.not_mem_nil, or_false] at hw
        rcases hw with rfl | rfl | rfl | rfl
        · exact ⟨hlink, fx_good _ hlink⟩
        · exact ⟨hsel, fx_good _ hsel⟩
        · exact ⟨hinst, fx_good _ hinst⟩
        · exact ⟨h2, fx_good _ h2⟩
      · exact fx_gd M' h1 w hw
    exact va_runF (C := M'.1.cls) (nL := M.2.2.1) (rest := rest.map (fx_cv tb h.1)) (As := vs.map (fx_cv tb h.1)) hat ⟨hx, hb, hml, hown, hts⟩ hM2
      (va_cwF np hts hgd rfl rfl rfl ⟨hxw _ f1, hxw _ f2, hxw _ f3, hxw _ f4, hxw _ f5⟩ hd ⟨by show M'.2.2.2.2.1 + 1 ≤ R.frames; omega, by show 8 + (M'.2.2.1 + 11) + M'.2.2.2.2.2 ≤ R.locals; omega⟩)
      ⟨hpre.1, hr, hpre.2⟩ rfl (by rw [List.length_map]; exact hnp) hL.1 rfl (fx_w8 hw) d ⟨Nat.le_trans hB.1 hRm.2.2.1, Nat.le_trans hB.2 hRm.2.2.2⟩
