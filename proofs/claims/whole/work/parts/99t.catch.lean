/-! the law's own calls, with their handlers -/
abbrev fx_wdW (M : fx_M) (hh : List (Nat × Nat × Nat × Nat)) : List Cond := Cond.codeWith M.1 M.2.1 M.2.2.1 M.2.2.2.1 hh :: fx_tb
def fx_MtW (l : Launch) (M : fx_M) (hh : List (Nat × Nat × Nat × Nat)) (B : Nat × Nat) (vs : List Value) (h : fx_H) (Q : Option Value → fx_H → Prop) : Prop :=
  ∀ (D : va_G) (g : ClassId × ClassId × ClassId) (tb : Nat → Nat) (sz : Nat), Met l M.1 (fx_wdW M hh) (fx_rm M B) (va_Pc (vs.map (fx_cv tb h.1)) (fx_Iz D g tb h sz)) (fx_Qc D g tb h sz B Q) B.1 B.2 (va_A (fx_ws g tb h) sz)
def fx_EW (l : Launch) (M : fx_M) (hh : List (Nat × Nat × Nat × Nat)) (B : Nat × Nat) (Q : Option Value → fx_H → Prop) (h0 : fx_H) : fx_EE := fun p e R s m args below meth c A D g tb S0 QQ =>
  fx_E l M B Q p e R s m args below meth c A D g tb S0 QQ ∧ S0 = h0.1 ∧ c.exceptionTable.toList = tableOf hh ∧ fx_zs s
section FW
variable {l : Launch} {M M' : fx_M} {B B' : Nat × Nat} {Q : Option Value → fx_H → Prop} {c0 s0 pc n ix np : Nat} {ls ls2 : List (Option Value)} {st rest vs : List Value} {h h0 : fx_H} {hh : List (Nat × Nat × Nat × Nat)}
theorem fx_entryW {hh : List (Nat × Nat × Nat × Nat)} (hy : plainName M.1.cls = true) (hn : (lg_sl vs).length ≤ M.2.2.1) (hls : fx_en vs M.2.2.1 = ls) (k : fx_U l M B (fx_EW l M hh B Q h) 0 0 0 ls [] h) : fx_MtW l M hh B vs h Q := by
  intro D g tb sz
  refine va_MetW (cc := M.2.1) (maxL := M.2.2.1) (ret := M.2.2.2.1) (hh := hh) (ws' := fx_tb) hy rfl ?_
  intro p e s m args below meth c s₁ Bd hml hv
  obtain ⟨rfl, ⟨hsz, hP, hK, hD0, hlen, hSt, hxw⟩, hzs⟩ := hv
  subst hsz
  have hts := atoms_spec (ws := fx_wdW M hh) Bd.pre
  have hown : s.vm.findClass M.1.cls = some m.cls := findClass_of_methodNamed Bd.named
  have hlocks := Bd.notSynchronized
  have hD := hD0.self (sz := s.heap.size)
  have hA : ∀ q : Nat, s.heap.size ≤ q → va_A (fx_ws g tb h) s.heap.size q := fun q h => Or.inr h
  have hl := lv_entry (vs.map (fx_cv tb h.1)) (n := M.2.2.1) (by rw [fx_sl_len _ (fx_cv_cat tb h.1)]; exact hn)
  have htab : c.exceptionTable.toList = tableOf hh := by
    obtain ⟨m9, meth9, c9, hn9, w1, w2, -, -, w5, -⟩ := Cond.codeWith_spec (hts _ List.mem_cons_self)
    cases Bd.named.symm.trans hn9
    cases Bd.method.symm.trans w1
    cases (Stand.of_body Bd).code.symm.trans w2
    rw [← w5, table_eq]
  rw [lg_entry_eq]
  refine k p e _ s m _ below meth c (va_A (fx_ws g tb h) s.heap.size) D g tb h.1 _ ⟨Bd.exec, Bd.bytes, hml, hown, fun w hw => hts w (List.mem_cons_of_mem _ hw), hK, hA, hSt, ⟨Nat.le_refl _, Nat.le_refl _, Nat.le_refl _, Nat.le_refl _⟩, (name_of_methodNamed Bd.named Bd.method).1, hxw⟩ ⟨?_, rfl, htab, hzs⟩ s.heap [] _ ⟨hP, hD, hlen⟩ va_S.rf (fx_g_rf _) ?_
  · intro v h2 H locs c0 s0 pc la hQ hP2 hS hG hc hs hr
    refine W.widen hc hs ?_
    have hq : ∀ (t : State) (o : Outcome), t.heap = H → o = .returned (v.map (fx_cv tb h2.1)) → fx_Qc D g tb h s.heap.size B Q (vs.map (fx_cv tb h.1)).toArray s o t := by
      intro t o ht ho
      refine ⟨⟨v, h2, ho, hQ, by rw [ht]; exact hP2.1, hP2.2.1, hP2.2.2, hG.1, fun z => hG.2 (by omega)⟩, hS.F ht⟩
    have hrt := Bd.returns
    match v, hr, hq with
    | none, hr, hq => exact W.vret Bd.exec Bd.bytes (hrt.trans hr.1) (fun t ht hW => hq t _ ht rfl) hS.2.2 hr.2
    | some (.int x), hr, hq =>
      obtain ⟨⟨ty, h1, h2⟩, hd⟩ := hr
      exact W.zret Bd.exec Bd.bytes (hrt.trans h1) h2 (fun t ht hW => hq t _ ht rfl) hS.2.2 hd
    | some (.long x), hr, hq => exact W.lret Bd.exec Bd.bytes (hrt.trans hr.1) (fun t ht hW => hq t _ ht rfl) hS.2.2 hr.2
    | some (.ref x), hr, hq =>
      obtain ⟨⟨rt, h1, h2⟩, hd⟩ := hr
      exact W.aret Bd.exec Bd.bytes (hrt.trans h1) h2 (Or.inr ⟨_, rfl⟩) (fun t ht hW => hq t _ ht rfl) hS.2.2 hd
  · subst hls
    refine fx_has_L hl fun i v hi => ?_
    have := fx_en_at (fx_cv_cat tb h.1) vs 0 _ i v hi
    simpa using this
theorem fx_entryN {hh : List (Nat × Nat × Nat × Nat)} (hy : plainName M.1.cls = true) (hn : (lg_sl vs).length ≤ M.2.2.1) (hls : fx_en vs M.2.2.1 = ls) (k : fx_N l M B (fx_EW l M hh B Q h) 0 ls [] h) : fx_MtW l M hh B vs h Q := by
  intro D g tb sz
  refine va_MetW (cc := M.2.1) (maxL := M.2.2.1) (ret := M.2.2.2.1) (hh := hh) (ws' := fx_tb) hy rfl ?_
  intro p e s m args below meth c s₁ Bd hml hv
  obtain ⟨rfl, ⟨hsz, hP, hK, hD0, hlen, hSt, hxw⟩, hzs⟩ := hv
  subst hsz
  have hts := atoms_spec (ws := fx_wdW M hh) Bd.pre
  have hown : s.vm.findClass M.1.cls = some m.cls := findClass_of_methodNamed Bd.named
  have hlocks := Bd.notSynchronized
  have hD := hD0.self (sz := s.heap.size)
  have hA : ∀ q : Nat, s.heap.size ≤ q → va_A (fx_ws g tb h) s.heap.size q := fun q h => Or.inr h
  have hl := lv_entry (vs.map (fx_cv tb h.1)) (n := M.2.2.1) (by rw [fx_sl_len _ (fx_cv_cat tb h.1)]; exact hn)
  have htab : c.exceptionTable.toList = tableOf hh := by
    obtain ⟨m9, meth9, c9, hn9, w1, w2, -, -, w5, -⟩ := Cond.codeWith_spec (hts _ List.mem_cons_self)
    cases Bd.named.symm.trans hn9
    cases Bd.method.symm.trans w1
    cases (Stand.of_body Bd).code.symm.trans w2
    rw [← w5, table_eq]
  rw [lg_entry_eq]
  refine k p e _ s m _ below meth c (va_A (fx_ws g tb h) s.heap.size) D g tb h.1 _ ⟨Bd.exec, Bd.bytes, hml, hown, fun w hw => hts w (List.mem_cons_of_mem _ hw), hK, hA, hSt, ⟨Nat.le_refl _, Nat.le_refl _, Nat.le_refl _, Nat.le_refl _⟩, (name_of_methodNamed Bd.named Bd.method).1, hxw⟩ ⟨?_, rfl, htab, hzs⟩ _ ⟨hP, hD, hlen⟩ ?_
  · intro v h2 H locs c0 s0 pc la hQ hP2 hS hG hc hs hr
    refine W.widen hc hs ?_
    have hq : ∀ (t : State) (o : Outcome), t.heap = H → o = .returned (v.map (fx_cv tb h2.1)) → fx_Qc D g tb h s.heap.size B Q (vs.map (fx_cv tb h.1)).toArray s o t := by
      intro t o ht ho
      refine ⟨⟨v, h2, ho, hQ, by rw [ht]; exact hP2.1, hP2.2.1, hP2.2.2, hG.1, fun z => hG.2 (by omega)⟩, hS.F ht⟩
    have hrt := Bd.returns
    match v, hr, hq with
    | none, hr, hq => exact W.vret Bd.exec Bd.bytes (hrt.trans hr.1) (fun t ht hW => hq t _ ht rfl) hS.2.2 hr.2
    | some (.int x), hr, hq =>
      obtain ⟨⟨ty, h1, h2⟩, hd⟩ := hr
      exact W.zret Bd.exec Bd.bytes (hrt.trans h1) h2 (fun t ht hW => hq t _ ht rfl) hS.2.2 hd
    | some (.long x), hr, hq => exact W.lret Bd.exec Bd.bytes (hrt.trans hr.1) (fun t ht hW => hq t _ ht rfl) hS.2.2 hr.2
    | some (.ref x), hr, hq =>
      obtain ⟨⟨rt, h1, h2⟩, hd⟩ := hr
      exact W.aret Bd.exec Bd.bytes (hrt.trans h1) h2 (Or.inr ⟨_, rfl⟩) (fun t ht hW => hq t _ ht rfl) hS.2.2 hd
  · subst hls
    refine fx_has_L hl fun i v hi => ?_
    have := fx_en_at (fx_cv_cat tb h.1) vs 0 _ i v hi
    simpa using this
theorem fy_endW (v : Option Value) (hr : fx_ret M v pc) (hc : c0 ≤ B.1) (hs : s0 ≤ B.2) (hst : v.toList = st) (k : Q v h) : fx_U l M B (fx_EW l M hh B Q h0) c0 s0 pc ls st h := by
  subst hst
  intro p e R s m args below meth c A D g tb S0 QQ hX hE H locs la hP hS hG hL
  have := hE.1 v h H locs c0 s0 pc la k hP hS hG hc hs hr
  have e9 : v.toList.map (fx_cv tb h.1) = (v.map (fx_cv tb h.1)).toList := by cases v <;> rfl
  rw [e9]
  exact this
theorem same_cell {s t : State} {k n : Nat} (hs : s.sameButNew t [] k n) {q : Nat} {ce : Cell} (hq : s.heap[q]? = some ce) : t.heap[q]? = some ce := by
  obtain ⟨c', h1, h2, h3, h4⟩ := hs.2.2.2.2.2 q ce hq
  have e1 : c'.slots = ce.slots := Array.ext_getElem? fun i => h4 i (by simp)
  rw [e1] at h2
  rw [h1, h2]
/-- a call that throws, and the handler that answers -/
theorem fn_callX {X : String} {pre post : List (Nat × Nat × Nat × Nat)} {x : Nat × Nat × Nat × Nat} {b0 a ci i hp2 : Nat} {rs : List (Option Nat)} {z : Int}
    (d : decode M.2.1 pc = .ok (.invokevirtual ix, 3)) (hc : fx_cB M M' np) (hinst : Cond.instanceMethod M'.1 ∈ fx_tb) (hsel : Cond.selects M'.1.cls M'.1 M'.1 ∈ fx_tb) (hlk : Cond.methodLink M.1.cls ix M'.1 ∈ fx_tb)
    (hq : h.1[b0]? = some (a, .inl (ci, rs))) (hcl : (fx_cl[ci]?).map (fun q => q.1) = some M'.1.cls) (hnp : vs.length = np) (hst : vs.reverse ++ .ref b0 :: rest = st) (hw : (rest.map fun v => v.category).sum ≤ 8)
    (hM : fx_Mx l M' (.ref b0 :: vs) h X) (hhe : hh = pre ++ x :: post)
    (hpass : ∀ y ∈ pre, y.2.2.2 ≠ 0 ∧ ∃ N, Cond.classLink M.1.cls y.2.2.2 N ∈ fx_tb ∧ (X, N) ∈ fx_zn)
    (hcov : x.1 ≤ pc ∧ pc < x.2.1) (hx0 : x.2.2.2 ≠ 0) (hxl : Cond.classLink M.1.cls x.2.2.2 X ∈ fx_tb) (hxc : Cond.castable X X ∈ fx_xw)
    (dA : (decode M.2.1 x.2.2.1 = .ok (.astore i, 2) ∧ hp2 = x.2.2.1 + 2) ∨ (∃ z4 : Fin 4, decode M.2.1 x.2.2.1 = .ok (.astore_n z4, 1) ∧ (z4 : Nat) = i ∧ hp2 = x.2.2.1 + 1)) (hi : i < M.2.2.1)
    (dI : decode M.2.1 hp2 = .ok (.iconst z, 1)) (hret : fx_ret M (some (.int (zI z))) (hp2 + 1)) (hQ : Q (some (.int (zI z))) h) :
    fx_N l M (1, 6) (fx_EW l M hh (1, 6) Q h) pc ls st h := by
  subst hst
  intro p e R s m args below meth c A D g tb S0 QQ hX hE la hP hL
  obtain ⟨hx, hb, hml, hown, hts, hK, hA, hSt, hRm, hnm, hxw⟩ := id hX
  obtain ⟨hEE, hS0, htab, hzs⟩ := hE
  subst hS0
  have hr : ∃ cellB : Cell, s.heap[a]? = some cellB ∧ cellB.vm.isStatics = false ∧ s.vm.findClass M'.1.cls = some cellB.cls := by
    cases hv : fx_cl[ci]? with
    | none => rw [hv] at hcl; cases hcl
    | some q =>
      rw [hv] at hcl
      have hq1 : q.1 = M'.1.cls := Option.some.inj hcl
      rw [← hq1]
      exact va_recv hK hP.1 hv (fx_ws_at (g := g) (tb := tb) hq)
  obtain ⟨cellB, hcB, hoB, hclB⟩ := hr
  have ha : fx_cv tb h.1 (.ref b0) = .ref a := by simp only [fx_cv, fx_ad_at hq]
  have hpre := fx_pre (l := l) (Q := fun _ _ => True) (c0 := 0) (vs := .ref b0 :: vs) hX hP va_S.rf
  have hM2 := hM D g tb s.heap.size
  rw [List.map_cons, ha] at hpre hM2
  have hstk : (vs.reverse ++ .ref b0 :: rest).map (fx_cv tb h.1) = (vs.map (fx_cv tb h.1)).reverse ++ .ref a :: rest.map (fx_cv tb h.1) := by
    rw [List.map_append, List.map_cons, ha, List.map_reverse]
  rw [hstk]
  have hblind : FrameBlind (va_Pc (.ref a :: vs.map (fx_cv tb h.1)) (fx_Iz D g tb h s.heap.size)) := by
    intro a9 U g9 mk q
    obtain ⟨q0, q1, q2⟩ := q
    have q3 := hpre.1 a9 U g9 mk ⟨q0, q1⟩
    exact ⟨q3.1, q3.2, q2.ride (s := U) (U := U.calling g9 mk a9) (State.WarmedH.refl U) (fun y cy hy _ => hy)⟩
  have hPc : ∀ U : State, U.heap = s.heap → s.WarmedH U.vm → va_Pc (.ref a :: vs.map (fx_cv tb h.1)) (fx_Iz D g tb h s.heap.size) (Value.ref a :: vs.map (fx_cv tb h.1)).toArray U := fun U hU hW =>
    ⟨rfl, (hpre.2 U hU hW).2, hzs.ride hW (fun y cy hy _ => by rw [hU]; exact hy)⟩
  obtain ⟨hrc, hrs, hfr, hlo, hws, hcw, hcode, hini, hyy, hlen, hl⟩ := fx_cbk (B' := (1, 6)) hc hts (hts _ hlk) ⟨hRm.1, hRm.2.1⟩
  have hBT : Jvm.Free.BackT l R p e below s args M'.1 3 8 (PreOf R 1 6 (va_Pc (.ref a :: vs.map (fx_cv tb h.1)) (fx_Iz D g tb h s.heap.size))) (fun A9 a9 v B9 => B9.locs = A9.locs ∧ B9.cells = A9.cells + 1 ∧ B9.slots = A9.slots + 6 ∧ ∃ (g9 : JFrame) (mk : MethodId) (t : State), B9.U.heap = t.heap ∧ fx_Qx X a9 (A9.U.calling g9 mk a9) (.threw v) t) := by
    refine Jvm.Free.BackT.of_free (E := fun _ _ _ _ L k n => L = [] ∧ k = 1 ∧ n = 6) (bytes := M'.2.1) (maxL := M'.2.2.1) (ret := M'.2.2.2.1) hM2 hfr hlo ?_ ?_ (fun _ _ _ _ _ _ _ _ _ => trivial) ?_ ?_
    · intro m9 meth9 c9 A9 a9 X9 hp9
      exact ⟨atoms_intro fun w hw => hws w hw _ _ X9.warmed, hws _ hcw _ _ X9.warmed, word_at X9.warmed (Or.inl (by first | rfl | simp [Cond.onTables, Cond.keeps, Cond.steady])) hini, hp9.1, hp9.2.1⟩
    · intro m9 meth9 c9 A9 a9 g9 mk X9 hp9
      exact hblind _ _ _ _ hp9.2.2
    · intro a9 st9 o t hq9
      obtain ⟨⟨av, rfl, r1⟩, r2, r3⟩ := hq9
      exact ⟨[], 1, 6, ⟨⟨av, rfl⟩, r2, r3⟩, rfl, rfl, rfl⟩
    · intro m9 meth9 c9 A9 a9 g9 mk v t L k n9 X9 hp9 hq9 hF9 hE9
      obtain ⟨e1, e2, e3⟩ := hE9
      subst e1; subst e2; subst e3
      exact ⟨List.append_nil _, rfl, rfl, g9, mk, t, rfl, hq9⟩
  intro T hT X0
  obtain ⟨mk, methM, hnamed, hmethM, hstM, habM⟩ := Cond.instanceMethod_spec (hts _ hinst)
  obtain ⟨methM', cM, hmethM', -, -, -, -, -, -, hsigM⟩ := Cond.code_spec hnamed hcode
  cases hmethM.symm.trans hmethM'
  obtain ⟨c2, r2, m2, q1, q2, q3, q4, kP, hkP, hkPi⟩ := Cond.selects_spec (hts _ hsel)
  cases hclB.symm.trans q1
  cases (State.methodFound?_of_named hnamed hyy).symm.trans q2
  cases hnamed.symm.trans q3
  have hselP : selectMethod e.platform s.vm cellB.cls mk = .method mk := by rw [Launch.admits_selectMethod X0.admits]; exact q4
  have hdg : decode c.code pc = .ok (.invokevirtual ix, 3) := by rw [hb]; exact d
  obtain ⟨vm₁, X₁, hstep₁⟩ := X0.invokevirtual hx hown (hts _ hlk) hnamed hmethM hstM hkP hkPi hyy (a := a) (cell := cellB) (by rw [hT]; exact hcB)
    (fun z h => by rw [h] at hoB; cases hoB) hselP hmethM habM hkP hkPi (g := F0 m pc la ((vs.map (fx_cv tb h.1)).reverse ++ .ref a :: rest.map (fx_cv tb h.1))) rfl (argsL := vs.map (fx_cv tb h.1)) (rest := rest.map (fx_cv tb h.1)) (by rw [List.length_map, hnp]; exact hlen _ hsigM) rfl hdg
  obtain ⟨v, ⟨U2, l2, k2, n2⟩, X2, hpost, hsteps⟩ := hBT m meth c ⟨T.setVm vm₁, [], 0, 0⟩ (F0 m pc la (rest.map (fx_cv tb h.1))) (.invokevirtual ix) mk (Value.ref a :: vs.map (fx_cv tb h.1)).toArray X₁ rfl (hL.1.trans hml.symm) hdg (fx_w8 hw) (X₁.named hnamed) ⟨by have := hRm.2.2.1; simpa using this, by have := hRm.2.2.2; simpa using this, hPc (T.setVm vm₁) hT X₁.warmed⟩
  dsimp only [Pt.U, Pt.locs, Pt.cells, Pt.slots] at X2 hpost hsteps
  obtain ⟨rfl, rfl, rfl, g9, mk9, t, e1, ⟨⟨av, eav, hsz, ce, hce, hfX, hvm⟩, hWt, hsame⟩⟩ := hpost
  cases eav
  have hkeep : ∀ (q : Nat) (cq : Cell), s.heap[q]? = some cq → t.heap[q]? = some cq := fun q cq hq9 => same_cell hsame (q := q) (ce := cq) (by show T.heap[q]? = _; rw [hT]; exact hq9)
  have hgrow : s.heap.size ≤ t.heap.size := by have := hsame.2.1; rw [← hT]; exact this
  have hfX2 : s.vm.findClass X = some ce.cls := by
    have h9 : (T.setVm vm₁).vm.findClass X = some ce.cls := hfX
    rw [X₁.warmed.alike.findClass] at h9
    exact h9
  obtain ⟨c3, c4, hc3, hc4, hasg⟩ := Cond.castable_spec (va_Nw.use (A := args) rfl (hxw _ hxc))
  cases hc3.symm.trans hfX2
  cases hc4.symm.trans hfX2
  obtain ⟨hcat, hk0⟩ := X2.catches_of_link hown (x := ⟨x.1, x.2.1, x.2.2.1, x.2.2.2⟩) hx0 (hts _ hxl) hfX2 hasg
  have hpl : e.platform.magicAccessors = ({} : Platform).magicAccessors := by rw [X0.admits.platform]
  obtain ⟨vm', X3, st3⟩ := X2.thenCaughtThrough v (g := F0 m pc la (rest.map (fx_cv tb h.1))) rfl (s₀ := T.setTop (F0 m pc la ((vs.map (fx_cv tb h.1)).reverse ++ .ref a :: rest.map (fx_cv tb h.1)))) ((hstep₁ _ fun acts => by rw [doInvoke_state]; exact Steps.refl _).trans hsteps) (cell := ce) (by rw [e1]; exact hce) (by rw [hvm]; rfl) hk0 (tableOf pre) ⟨x.1, x.2.1, x.2.2.1, x.2.2.2⟩ (tableOf post) (by rw [htab, hhe]; simp [tableOf]) (by
      intro y hy
      obtain ⟨y0, hy0, rfl⟩ := List.mem_map.mp hy
      obtain ⟨w0, N, wN, wz⟩ := hpass y0 hy0
      obtain ⟨cX, cY, z1, z2, z3⟩ := hzs.2 _ wz
      obtain ⟨c', hc', hcl9⟩ := Cond.classLink_spec hown (hts _ wN) e.platform hpl
      cases z1.symm.trans hfX2
      cases z2.symm.trans hc'
      exact Or.inr ⟨w0, _, hcl9, z3⟩) (by simp [covers, hcov.1, hcov.2]) hcat
  have hend : ∀ la2 : Array Slot, W p l e R s m args below meth c t.heap [] 1 6 QQ (F0 m hp2 la2 []) := fun la2 =>
    lv_iconst hx hb dI rfl (hEE (some (.int (zI z))) h t.heap [] 1 6 _ la2 hQ ⟨hP.1.kept fun k9 q9 hk9 => by
      obtain ⟨cq, hcq⟩ : ∃ cq, s.heap[q9.1]? = some cq := ⟨_, Array.getElem?_eq_getElem (hP.1 k9 q9 hk9).lt⟩
      rw [hcq]
      exact hkeep _ _ hcq, hP.2⟩ ⟨hgrow, fun q hq1 _ => by
        obtain ⟨cq, hcq⟩ : ∃ cq, s.heap[q]? = some cq := ⟨_, Array.getElem?_eq_getElem hq1⟩
        rw [hcq]
        exact hkeep _ _ hcq, fun _ h9 => absurd h9 (by simp)⟩ ⟨⟨[], by simp⟩, fun z9 => absurd z9 (by decide)⟩ (Nat.le_refl _) (Nat.le_refl _) hret)
  have W3 : W p l e R s m args below meth c t.heap [] 1 6 QQ (F0 m x.2.2.1 la [.ref v]) := by
    rcases dA with ⟨d1, rfl⟩ | ⟨z4, d1, d2, rfl⟩
    · exact lv_astore hx hb d1 (fx_L_has hL) hi rfl fun la2 _ => hend la2
    · exact lv_astore_n hx hb d1 d2 (fx_L_has hL) hi rfl fun la2 _ => hend la2
  obtain ⟨w, a1, b1⟩ := W3 (U2.setVm vm') e1 X3
  exact ⟨w, st3.trans a1, b1⟩
end FW
