/-- what every call of M' out of M needs -/
def fx_cB (M M' : fx_M) (np : Nat) : Prop := Cond.code M'.1 M'.2.1 M'.2.2.1 M'.2.2.2.1 ∈ fx_tb ∧ Cond.initialized M'.1.cls ∈ fx_tb ∧ (M'.1.cls ≠ "java/lang/invoke/MethodHandle" ∧ M'.1.cls ≠ "java/lang/invoke/VarHandle" ∧ (parseMethodDescriptor M'.1.desc).map (fun d => d.parameters.length) = some np) ∧
  M'.2.2.2.2.1 + 1 ≤ M.2.2.2.2.1 ∧ 8 + (M'.2.2.1 + 11) + M'.2.2.2.2.2 ≤ M.2.2.2.2.2
def fx_cS (M M' : fx_M) (ix np : Nat) : Prop := fx_cB M M' np ∧ Cond.static M'.1 ∈ fx_tb ∧ (Cond.methodLink M.1.cls ix M'.1 ∈ fx_tb ∨ ∃ host, Cond.methodLinkNest M.1.cls ix M'.1 host ∈ fx_xw)
def fx_cV (M M' : fx_M) (ix np : Nat) : Prop := fx_cB M M' np ∧ Cond.instanceMethod M'.1 ∈ fx_tb ∧ Cond.selects M'.1.cls M'.1 M'.1 ∈ fx_tb ∧ (Cond.methodLink M.1.cls ix M'.1 ∈ fx_tb ∨ ∃ host, Cond.methodLinkNest M.1.cls ix M'.1 host ∈ fx_xw)
def fx_cI (M M' : fx_M) (ix np : Nat) : Prop := fx_cB M M' np ∧ Cond.instanceMethod M'.1 ∈ fx_tb ∧ M'.1.name = "<init>" ∧ M'.2.2.2.1 = none ∧ (Cond.methodLink M.1.cls ix M'.1 ∈ fx_tb ∨ ∃ host, Cond.methodLinkNest M.1.cls ix M'.1 host ∈ fx_xw)
theorem fx_gd (M' : fx_M) (hc : Cond.code M'.1 M'.2.1 M'.2.2.1 M'.2.2.2.1 ∈ fx_tb) : GoodIn fx_tb (fx_wd M') := by
  intro w hw
  rcases List.mem_cons.mp hw with rfl | hw
  · exact ⟨hc, fx_good _ hc⟩
  · exact ⟨hw, fx_good _ hw⟩
theorem fx_w8 {m : MethodId} {pc : Nat} {la : Array Slot} {st : List Value} {tb : Nat → Nat} {S : fx_S} {rest : List Value} (h : (rest.map fun v => v.category).sum ≤ 8) : 2 * (F0 m pc la st).monitorRoom + ((rest.map (fx_cv tb S)).map fun v => v.category).sum ≤ 8 := by
  refine lv_room ?_
  rw [List.map_map]
  have : ((fun v : Value => v.category) ∘ fx_cv tb S) = fun v => v.category := by funext v; exact fx_cv_cat tb S v
  rw [this]
  exact h
section FXC
variable {l : Launch} {M M' : fx_M} {B B' : Nat × Nat} {Q : Option Value → fx_H → Prop} {c0 s0 c1 s1 pc n ix np : Nat} {ls : List (Option Value)} {st rest vs : List Value} {h : fx_H}
theorem fx_cbk {R : Room} {s : State} {args : Array Value} (hcB : fx_cB M M' np) (hts : ∀ w ∈ fx_tb, w.before args s = true) (hlink : (Cond.methodLink M.1.cls ix M'.1).before args s = true) (hR : M.2.2.2.2.1 ≤ R.frames ∧ M.2.2.2.2.2 ≤ R.locals) :
    CallB R s args M.1.cls ix M'.1 M'.2.1 M'.2.2.1 M'.2.2.2.1 (fx_wd M') (fx_rm M' B') B'.1 B'.2 np := by
  obtain ⟨h1, h2, h3, h4, h5⟩ := hcB
  exact callB_of np hts (fx_gd M' h1) rfl rfl rfl (hts _ h2) hlink h3 ⟨by show M'.2.2.2.2.1 + 1 ≤ R.frames; omega, by show 8 + (M'.2.2.1 + 11) + M'.2.2.2.2.2 ≤ R.locals; omega⟩
theorem fx_cnk {R : Room} {s : State} {args : Array Value} {host : String} (hcB : fx_cB M M' np) (hts : ∀ w ∈ fx_tb, w.before args s = true) (hlink : va_Nw (.methodLinkNest M.1.cls ix M'.1 host) s) (hR : M.2.2.2.2.1 ≤ R.frames ∧ M.2.2.2.2.2 ≤ R.locals) :
    va_CN R s args M.1.cls ix M'.1 host M'.2.1 M'.2.2.1 M'.2.2.2.1 (fx_wd M') (fx_rm M' B') B'.1 B'.2 np := by
  obtain ⟨h1, h2, h3, h4, h5⟩ := hcB
  exact va_cnB np hts (fx_gd M' h1) rfl rfl rfl hlink (hts _ h2) h3 ⟨by show M'.2.2.2.2.1 + 1 ≤ R.frames; omega, by show 8 + (M'.2.2.1 + 11) + M'.2.2.2.2.2 ≤ R.locals; omega⟩
theorem fx_callS (d : decode M.2.1 pc = .ok (.invokestatic ix, 3)) (hc : fx_cS M M' ix np) (hnp : vs.length = np) (hst : vs.reverse ++ rest = st) (hB : c0 + B'.1 ≤ B.1 ∧ s0 + B'.2 ≤ B.2) (hw : (rest.map fun v => v.category).sum ≤ 8) (hlv : B'.1 = 0 ∨ (fx_okl h.1.length ls = true ∧ rest.all (fx_okr h.1.length) = true)) (hM : fx_Mt l M' B' vs h (fun v h2 => fx_V l M B Q c1 s1 n ls (v.toList ++ rest) h2)) (hn : pc + 3 = n := by rfl) (hc1 : c0 + B'.1 = c1 := by rfl) (hs1 : s0 + B'.2 = s1 := by rfl) : fx_V l M B Q c0 s0 pc ls st h := by
  subst hn; subst hst; subst hc1; subst hs1
  intro p e R s m args below meth c A D g tb S0 QQ hX hE H locs la hP hS hG hL
  obtain ⟨hx, hb, hml, hown, hts, hK, hA, hSt, hRm, hnm, hxw⟩ := id hX
  obtain ⟨hcB, hstat, hw2⟩ := hc
  refine fx_core (ln := 3) (B' := B') (rest := rest) (a := (vs.map (fx_cv tb h.1)).toArray) hX hE hP hS hG hL hlv ?_ (fun v h2 hv => hv)
  rcases hw2 with hw2 | ⟨host, hw2⟩
  · exact va_runS (nL := M.2.2.1) (rest := rest.map (fx_cv tb h.1)) (As := vs.map (fx_cv tb h.1)) ⟨hx, hb, hml, hown, hts⟩ (hM D g tb H.size) ⟨fx_cbk (B' := B') hcB hts (hts _ hw2) ⟨hRm.1, hRm.2.1⟩, hts _ hstat⟩ (fx_pre (l := l) (Q := Q) (c0 := c0) hX hP hS) rfl (by rw [List.length_map]; exact hnp) hL.1 (by rw [List.map_append, List.map_reverse]) (fx_w8 hw) d ⟨Nat.le_trans hB.1 hRm.2.2.1, Nat.le_trans hB.2 hRm.2.2.2⟩
  · exact va_runSN (nL := M.2.2.1) (rest := rest.map (fx_cv tb h.1)) (As := vs.map (fx_cv tb h.1)) ⟨hx, hb, hml, hown, hts⟩ (hM D g tb H.size) ⟨fx_cnk (B' := B') hcB hts (hxw _ hw2) ⟨hRm.1, hRm.2.1⟩, hts _ hstat, trivial⟩ (fx_pre (l := l) (Q := Q) (c0 := c0) hX hP hS) rfl (by rw [List.length_map]; exact hnp) hL.1 (by rw [List.map_append, List.map_reverse]) (fx_w8 hw) d ⟨Nat.le_trans hB.1 hRm.2.2.1, Nat.le_trans hB.2 hRm.2.2.2⟩
theorem fx_callV {b0 a ci : Nat} {rs : List (Option Nat)} (d : decode M.2.1 pc = .ok (.invokevirtual ix, 3)) (hc : fx_cV M M' ix np) (hq : h.1[b0]? = some (a, .inl (ci, rs))) (hcl : (fx_cl[ci]?).map (fun q => q.1) = some M'.1.cls) (hnp : vs.length = np) (hst : vs.reverse ++ .ref b0 :: rest = st) (hB : c0 + B'.1 ≤ B.1 ∧ s0 + B'.2 ≤ B.2) (hw : (rest.map fun v => v.category).sum ≤ 8) (hlv : B'.1 = 0 ∨ (fx_okl h.1.length ls = true ∧ rest.all (fx_okr h.1.length) = true)) (hM : fx_Mt l M' B' (.ref b0 :: vs) h (fun v h2 => fx_V l M B Q c1 s1 n ls (v.toList ++ rest) h2)) (hn : pc + 3 = n := by rfl) (hc1 : c0 + B'.1 = c1 := by rfl) (hs1 : s0 + B'.2 = s1 := by rfl) : fx_V l M B Q c0 s0 pc ls st h := by
  subst hn; subst hst; subst hc1; subst hs1
  intro p e R s m args below meth c A D g tb S0 QQ hX hE H locs la hP hS hG hL
  obtain ⟨hx, hb, hml, hown, hts, hK, hA, hSt, hRm, hnm, hxw⟩ := id hX
  obtain ⟨hcB, hinst, hsel, hw2⟩ := hc
  have hr : ∃ cellB : Cell, H[a]? = some cellB ∧ cellB.vm.isStatics = false ∧ s.vm.findClass M'.1.cls = some cellB.cls := by
    cases hv : fx_cl[ci]? with
    | none => rw [hv] at hcl; cases hcl
    | some q =>
      rw [hv] at hcl
      have hq1 : q.1 = M'.1.cls := Option.some.inj hcl
      rw [← hq1]
      exact va_recv hK hP.1 hv (fx_ws_at (g := g) (tb := tb) hq)
  have ha : fx_cv tb h.1 (.ref b0) = .ref a := by simp only [fx_cv, fx_ad_at hq]
  have hpre := fx_pre (l := l) (Q := Q) (c0 := c0) (vs := .ref b0 :: vs) hX hP hS
  rw [List.map_cons, ha] at hpre
  have hM2 := hM D g tb H.size
  rw [List.map_cons, ha] at hM2
  have hstk : (vs.reverse ++ .ref b0 :: rest).map (fx_cv tb h.1) = (vs.map (fx_cv tb h.1)).reverse ++ .ref a :: rest.map (fx_cv tb h.1) := by
    rw [List.map_append, List.map_cons, ha, List.map_reverse]
  rw [hstk]
  refine fx_core (ln := 3) (B' := B') (rest := rest) (a := (Value.ref a :: vs.map (fx_cv tb h.1)).toArray) hX hE hP hS hG hL hlv ?_ (fun v h2 hv => hv)
  rcases hw2 with hw2 | ⟨host, hw2⟩
  · exact va_runV (C := M'.1.cls) (nL := M.2.2.1) (rest := rest.map (fx_cv tb h.1)) (As := vs.map (fx_cv tb h.1)) ⟨hx, hb, hml, hown, hts⟩ hM2 ⟨fx_cbk (B' := B') hcB hts (hts _ hw2) ⟨hRm.1, hRm.2.1⟩, hts _ hinst, hts _ hsel⟩ ⟨hpre.1, hr, hpre.2⟩ rfl (by rw [List.length_map]; exact hnp) hL.1 rfl (fx_w8 hw) d ⟨Nat.le_trans hB.1 hRm.2.2.1, Nat.le_trans hB.2 hRm.2.2.2⟩
  · exact va_runVN (C := M'.1.cls) (nL := M.2.2.1) (rest := rest.map (fx_cv tb h.1)) (As := vs.map (fx_cv tb h.1)) ⟨hx, hb, hml, hown, hts⟩ hM2 ⟨fx_cnk (B' := B') hcB hts (hxw _ hw2) ⟨hRm.1, hRm.2.1⟩, hts _ hinst, hts _ hsel⟩ ⟨hpre.1, hr, hpre.2⟩ rfl (by rw [List.length_map]; exact hnp) hL.1 rfl (fx_w8 hw) d ⟨Nat.le_trans hB.1 hRm.2.2.1, Nat.le_trans hB.2 hRm.2.2.2⟩
theorem fx_callI {b0 : Nat} (d : decode M.2.1 pc = .ok (.invokespecial ix, 3)) (hc : fx_cI M M' ix np) (hnp : vs.length = np) (hst : vs.reverse ++ .ref b0 :: rest = st) (hB : c0 + B'.1 ≤ B.1 ∧ s0 + B'.2 ≤ B.2) (hw : (rest.map fun v => v.category).sum ≤ 8) (hlv : B'.1 = 0 ∨ (fx_okl h.1.length ls = true ∧ rest.all (fx_okr h.1.length) = true)) (hM : fx_Mt l M' B' (.ref b0 :: vs) h (fun v h2 => fx_V l M B Q c1 s1 n ls (v.toList ++ rest) h2)) (hn : pc + 3 = n := by rfl) (hc1 : c0 + B'.1 = c1 := by rfl) (hs1 : s0 + B'.2 = s1 := by rfl) : fx_V l M B Q c0 s0 pc ls st h := by
  subst hn; subst hst; subst hc1; subst hs1
  intro p e R s m args below meth c A D g tb S0 QQ hX hE H locs la hP hS hG hL
  obtain ⟨hx, hb, hml, hown, hts, hK, hA, hSt, hRm, hnm, hxw⟩ := id hX
  obtain ⟨hcB, hinst, hnm2, hret, hw2⟩ := hc
  have hpre := fx_pre (l := l) (Q := Q) (c0 := c0) (vs := .ref b0 :: vs) hX hP hS
  have hM2 := hM D g tb H.size
  have hstk : (vs.reverse ++ .ref b0 :: rest).map (fx_cv tb h.1) = (vs.map (fx_cv tb h.1)).reverse ++ .ref (fx_ad tb h.1 b0) :: rest.map (fx_cv tb h.1) := by
    rw [List.map_append, List.map_cons, List.map_reverse]; rfl
  rw [hstk]
  refine fx_core (ln := 3) (B' := B') (rest := rest) (a := (Value.ref (fx_ad tb h.1 b0) :: vs.map (fx_cv tb h.1)).toArray) hX hE hP hS hG hL hlv ?_ (fun v h2 hv => hv)
  rcases hw2 with hw2 | ⟨host, hw2⟩
  · exact va_runI (nL := M.2.2.1) (rest := rest.map (fx_cv tb h.1)) (As := vs.map (fx_cv tb h.1)) ⟨hx, hb, hml, hown, hts⟩ hM2 ⟨hret ▸ fx_cbk (B' := B') hcB hts (hts _ hw2) ⟨hRm.1, hRm.2.1⟩, hnm2, hts _ hinst⟩ hpre rfl (by rw [List.length_map]; exact hnp) hL.1 rfl (fx_w8 hw) d ⟨Nat.le_trans hB.1 hRm.2.2.1, Nat.le_trans hB.2 hRm.2.2.2⟩
  · exact va_runIN (nL := M.2.2.1) (rest := rest.map (fx_cv tb h.1)) (As := vs.map (fx_cv tb h.1)) ⟨hx, hb, hml, hown, hts⟩ hM2 ⟨hret ▸ fx_cnk (B' := B') hcB hts (hxw _ hw2) ⟨hRm.1, hRm.2.1⟩, hnm2, hts _ hinst⟩ hpre rfl (by rw [List.length_map]; exact hnp) hL.1 rfl (fx_w8 hw) d ⟨Nat.le_trans hB.1 hRm.2.2.1, Nat.le_trans hB.2 hRm.2.2.2⟩
end FXC
