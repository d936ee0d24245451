/-! the law: its script, its own calls, its end -/
/-- what the law's walk knows beside: the script b of Ls ints, the statics, its end -/
def fx_EL (l : Launch) (M : fx_M) (B : Nat × Nat) (b Ls : Nat) (xs : Nat → Int32) : fx_EE := fun p e R s m args below meth c A _ _ tb _ QQ =>
  tb 2000 = b ∧ va_X b Ls xs s s.heap ∧ b < s.heap.size ∧ (∀ q, A q → s.heap.size ≤ q) ∧ fx_zs s ∧
  ∀ (H : Heap) (pc : Nat) (la : Array Slot), decode M.2.1 pc = .ok (.ireturn, 1) → W p l e R s m args below meth c H [] B.1 B.2 QQ (F0 m pc la [.int (zI 1)])
def sx (xs : Nat → Int32) (j : Int) : Int := (xs j.toNat).toInt
theorem sx_R (xs : Nat → Int32) (j : Int) : zR (sx xs j) := ⟨Int32.le_toInt _, Int32.toInt_lt _⟩
theorem sx_z (xs : Nat → Int32) (j : Int) : zI (sx xs j) = xs j.toNat := Int32.ofInt_toInt _
section LWA
variable {l : Launch} {M M' : fx_M} {B B' : Nat × Nat} {b Ls : Nat} {xs : Nat → Int32} {c0 s0 c1 s1 pc n ix np : Nat} {ls ls2 : List (Option Value)} {st rest vs : List Value} {h : fx_H} {hh : List (Nat × Nat × Nat × Nat)}
theorem fx_ad_2000 {D : va_G} {g : ClassId × ClassId × ClassId} {tb : Nat → Nat} {A : Nat → Prop} {H : Heap} (hP : fx_P D g tb A h H) : fx_cv tb h.1 (.ref 2000) = .ref (tb 2000) := by
  have hl := hP.2.2
  simp only [fx_cv, fx_ad]
  rw [List.getElem?_eq_none (by omega)]
theorem fl_sld {j : Int} (d : decode M.2.1 pc = .ok (.iaload, 1)) (h0 : 0 ≤ j) (hj : j < Ls) (hb0 : Ls < 2147483648) (k : fx_U l M B (fx_EL l M B b Ls xs) c0 s0 n ls (.int (zI (sx xs j)) :: rest) h) (hn : pc + 1 = n := by rfl) : fx_U l M B (fx_EL l M B b Ls xs) c0 s0 pc ls (.int (zI j) :: .ref 2000 :: rest) h := by
  subst hn
  intro p e R s m args below meth c A D g tb S0 QQ hX hE H locs la hP hS hG hL
  obtain ⟨e1, e2, e3, e4, e5, e6⟩ := id hE
  have hcl : (zI j).toNatClampNeg = j.toNat := zI_clamp ⟨by omega, by omega⟩
  have k2 := (k p e R s m args below meth c A D g tb S0 QQ hX hE H locs la hP hS hG hL)
  rw [List.map_cons] at k2
  have hz : fx_cv tb h.1 (.int (zI (sx xs j))) = .int (xs j.toNat) := by rw [sx_z]; rfl
  rw [hz, ← hcl] at k2
  rw [List.map_cons, List.map_cons, fx_ad_2000 hP, e1]
  exact va_sld hX.1 hX.2.1 e2 e3 (fun z => absurd (e4 _ z) (by omega)) hS (zI_in h0 hj hb0) d k2
theorem fl_slen {v : Int} (d : decode M.2.1 pc = .ok (.arraylength, 1)) (hv : (Ls : Int) = v) (k : fx_U l M B (fx_EL l M B b Ls xs) c0 s0 n ls (.int (zI v) :: rest) h) (hn : pc + 1 = n := by rfl) : fx_U l M B (fx_EL l M B b Ls xs) c0 s0 pc ls (.ref 2000 :: rest) h := by
  subst hn
  subst hv
  intro p e R s m args below meth c A D g tb S0 QQ hX hE H locs la hP hS hG hL
  obtain ⟨e1, e2, e3, e4, e5, e6⟩ := id hE
  have k2 := (k p e R s m args below meth c A D g tb S0 QQ hX hE H locs la hP hS hG hL)
  rw [List.map_cons] at k2
  have hz : fx_cv tb h.1 (.int (zI (Ls : Int))) = .int (Int32.ofNat Ls) := by rw [← fx_ofNat]; rfl
  rw [hz] at k2
  rw [List.map_cons, fx_ad_2000 hP, e1]
  exact va_slen hX.1 hX.2.1 e2 e3 (fun z => absurd (e4 _ z) (by omega)) hS d k2
theorem fl_end (d : decode M.2.1 pc = .ok (.ireturn, 1)) (hc : c0 ≤ B.1) (hs : s0 ≤ B.2) : fx_U l M B (fx_EL l M B b Ls xs) c0 s0 pc ls [.int (zI 1)] h := by
  intro p e R s m args below meth c A D g tb S0 QQ hX hE H locs la hP hS hG hL
  obtain ⟨e1, e2, e3, e4, e5, e6⟩ := id hE
  have := W.forget (locs := []) (L := locs) (fun q hq => e4 _ (hS.2.2 q hq)) (e6 H pc la d)
  rw [List.nil_append] at this
  exact W.widen hc hs this
/-- a call of the law's own methods -/
theorem fl_callSW (d : decode M.2.1 pc = .ok (.invokestatic ix, 3)) (hcw : Cond.codeWith M'.1 M'.2.1 M'.2.2.1 M'.2.2.2.1 hh ∈ fx_tb) (hini : Cond.initialized M'.1.cls ∈ fx_tb) (hp : M'.1.cls ≠ "java/lang/invoke/MethodHandle" ∧ M'.1.cls ≠ "java/lang/invoke/VarHandle" ∧ (parseMethodDescriptor M'.1.desc).map (fun d => d.parameters.length) = some np)
    (hrk : M'.2.2.2.2.1 + 1 ≤ M.2.2.2.2.1 ∧ 8 + (M'.2.2.1 + 11) + M'.2.2.2.2.2 ≤ M.2.2.2.2.2) (hstat : Cond.static M'.1 ∈ fx_tb) (hlk : Cond.methodLink M.1.cls ix M'.1 ∈ fx_tb) (hnp : vs.length = np) (hst : vs.reverse ++ rest = st) (hB : c0 + B'.1 ≤ B.1 ∧ s0 + B'.2 ≤ B.2) (hw : (rest.map fun v => v.category).sum ≤ 8) (hlv : B'.1 = 0 ∨ (fx_okl h.1.length ls = true ∧ rest.all (fx_okr h.1.length) = true))
    (hM : fx_MtW l M' hh B' vs h (fun v h2 => fx_U l M B (fx_EL l M B b Ls xs) c1 s1 n ls (v.toList ++ rest) h2)) (hn : pc + 3 = n := by rfl) (hc1 : c0 + B'.1 = c1 := by rfl) (hs1 : s0 + B'.2 = s1 := by rfl) : fx_U l M B (fx_EL l M B b Ls xs) c0 s0 pc ls st h := by
  subst hn; subst hst; subst hc1; subst hs1
  intro p e R s m args below meth c A D g tb S0 QQ hX hE H locs la hP hS hG hL
  obtain ⟨hx, hb, hml, hown, hts, hK, hA, hSt, hRm, hnm, hxw⟩ := id hX
  obtain ⟨e1, e2, e3, e4, hzs, e6⟩ := id hE
  refine fy_core (ln := 3) (B' := B') (rest := rest) (a := (vs.map (fx_cv tb h.1)).toArray) hX hE hP hS hG hL hlv ?_ (fun v h2 hv => hv)
  have hpre := fx_pre (l := l) (Q := fun _ _ => True) (c0 := c0) (vs := vs) hX hP hS
  have hblind : FrameBlind (va_Pc (vs.map (fx_cv tb h.1)) (fx_Iz D g tb h H.size)) := by
    intro a9 U g9 mk q
    obtain ⟨q0, q1, q2⟩ := q
    have q3 := hpre.1 a9 U g9 mk ⟨q0, q1⟩
    exact ⟨q3.1, q3.2, q2.ride (s := U) (U := U.calling g9 mk a9) (State.WarmedH.refl U) (fun y cy hy _ => hy)⟩
  have hPc : ∀ U : State, U.heap = H → s.WarmedH U.vm → va_Pc (vs.map (fx_cv tb h.1)) (fx_Iz D g tb h H.size) (vs.map (fx_cv tb h.1)).toArray U := fun U hU hW =>
    ⟨rfl, (hpre.2 U hU hW).2, hzs.ride hW (fun y cy hy _ => by
      have hy2 := (Array.getElem?_eq_some_iff.mp hy).1
      rw [hU, hS.2.1 y hy2 (fun z => absurd (e4 _ z) (by omega))]; exact hy)⟩
  have hG : GoodIn fx_tb (fx_wdW M' hh) := by
    intro w hw
    rcases List.mem_cons.mp hw with rfl | hw
    · exact ⟨hcw, fx_good _ hcw⟩
    · exact ⟨hw, fx_good _ hw⟩
  have hBk : Back l R p e below s args M'.1 3 8 (PreOf R B'.1 B'.2 (va_Pc (vs.map (fx_cv tb h.1)) (fx_Iz D g tb h H.size))) (PostOf _ B'.1 B'.2 _) := va_backW (hh := hh) (bytes := M'.2.1) (maxL := M'.2.2.1) (ret := M'.2.2.2.1) (hM D g tb H.size) hblind rfl rfl (Nat.le_trans hrk.1 hRm.1) (Nat.le_trans hrk.2 hRm.2.1) (pay_in hts hG) List.mem_cons_self (fun a' U hW => word_at hW (Or.inl (by first | rfl | simp [Cond.onTables, Cond.keeps, Cond.steady])) (hts _ hini))
  obtain ⟨mk, methM, cM, hnamed, hmethM, -, -, -, -, -, -, hsigM⟩ := Cond.codeWith_spec (hts _ hcw)
  have hstatic : methM.isStatic = true := Cond.static_spec hnamed hmethM (hts _ hstat)
  obtain ⟨kP, hkP, -⟩ := className_of_methodNamed hnamed
  have hinitP : kP.init = .initialized := Cond.initialized_spec (findClass_of_methodNamed hnamed) hkP (hts _ hini)
  have hlen : (vs.map (fx_cv tb h.1)).length = methM.sig.parameters.length := by
    have h9 := hp.2.2
    rw [hsigM] at h9
    rw [List.length_map, hnp]
    exact (Option.some.inj h9).symm
  have hdg : decode c.code pc = .ok (.invokestatic ix, 3) := by rw [hb]; exact d
  intro T hT X
  obtain ⟨vm₁, X₁, hstep₁⟩ := X.invokestatic hx hown (hts _ hlk) hnamed hmethM hstatic hkP hinitP ⟨hp.1, hp.2.1⟩ (g := F0 m pc la ((vs.reverse ++ rest).map (fx_cv tb h.1))) rfl (argsL := vs.map (fx_cv tb h.1)) (rest := rest.map (fx_cv tb h.1)) hlen (by rw [List.map_append, List.map_reverse]) hdg
  obtain ⟨v, ⟨U', l2, k2, n2⟩, X', ⟨g', mk', t, L9, q1, q2, hq, q3, hL9, q4, q5⟩, hsteps⟩ := hBk m meth c ⟨T.setVm vm₁, locs, c0, s0⟩ (F0 m pc la (rest.map (fx_cv tb h.1))) (.invokestatic ix) mk (vs.map (fx_cv tb h.1)).toArray X₁ rfl (hL.1.trans hml.symm) hdg (fx_w8 hw) (X₁.named hnamed) ⟨Nat.le_trans hB.1 hRm.2.2.1, Nat.le_trans hB.2 hRm.2.2.2, hPc (T.setVm vm₁) hT X₁.warmed⟩
  dsimp only [Pt.U, Pt.locs, Pt.cells, Pt.slots] at X' q1 q2 q3 q4 q5 hsteps
  subst q3; subst q4; subst q5
  exact ⟨v, (T.setVm vm₁).calling g' mk' (vs.map (fx_cv tb h.1)).toArray, t, U', L9, hT, X', hL9, q1, q2, hq, fun target h9 => hstep₁ _ fun acts => by rw [doInvoke_state]; exact hsteps.trans h9⟩
end LWA
