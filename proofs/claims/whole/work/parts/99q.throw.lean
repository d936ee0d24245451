/-! a call that throws -/
def fx_zw : List Cond := [.laysStatic "java/lang/Throwable" "UNASSIGNED_STACK" "[Ljava/lang/StackTraceElement;", .laysStatic "java/lang/Throwable" "SUPPRESSED_SENTINEL" "Ljava/util/List;", .isRef (.static "java/lang/Throwable" "UNASSIGNED_STACK" "[Ljava/lang/StackTraceElement;"), .isRef (.static "java/lang/Throwable" "SUPPRESSED_SENTINEL" "Ljava/util/List;")]
def fx_zn : List (String × String) := [("java/lang/IllegalArgumentException", "java/lang/IndexOutOfBoundsException"), ("java/lang/IllegalStateException", "java/lang/IllegalArgumentException")]
/-- what a throw asks of the statics, and what a catch asks of the kinds -/
def fx_zs (U : State) : Prop := (∀ w ∈ fx_zw, ∀ a : Array Value, w.before a U = true) ∧ ∀ q ∈ fx_zn, ∃ cX cY : ClassId, U.vm.findClass q.1 = some cX ∧ U.vm.findClass q.2 = some cY ∧ U.vm.assignable cX cY = false
theorem fx_zs.ride {s U : State} (h : fx_zs s) (hW : s.WarmedH U.vm) (hk : Jvm.Free.StaticsKept s U) : fx_zs U := by
  refine ⟨fun w hw a => Cond.rideK hW hk (a := #[]) w ?_ (h.1 w hw #[]), fun q hq => ?_⟩
  · have : fx_zw.all Cond.ridesK = true := by decide +kernel
    exact List.all_eq_true.mp this w hw
  · obtain ⟨cX, cY, h1, h2, h3⟩ := h.2 q hq
    exact ⟨cX, cY, by rw [hW.alike.findClass]; exact h1, by rw [hW.alike.findClass]; exact h2, by rw [hW.alike.assignable]; exact h3⟩
def fx_Qx (X : String) : Array Value → State → Outcome → State → Prop := fun _ s o t => (∃ a : Nat, o = .threw a ∧ s.heap.size ≤ a ∧ ∃ ce : Cell, t.heap[a]? = some ce ∧ s.vm.findClass X = some ce.cls ∧ ce.vm = .none) ∧ s.WarmedH t.vm ∧ s.sameButNew ({ t with vm := s.vm } : State) [] 1 6
def fx_Iz (D : va_G) (g : ClassId × ClassId × ClassId) (tb : Nat → Nat) (h : fx_H) (sz : Nat) (U : State) : Prop := fx_In D g tb h sz U ∧ fx_zs U
def fx_Mx (l : Launch) (M : fx_M) (vs : List Value) (h : fx_H) (X : String) : Prop :=
  ∀ (D : va_G) (g : ClassId × ClassId × ClassId) (tb : Nat → Nat) (sz : Nat), MetFree l M.1 (headSpec (fx_wd M) (fx_rm M (1, 6))) (va_Pc (vs.map (fx_cv tb h.1)) (fx_Iz D g tb h sz)) (fun _ _ _ _ _ => True) (fx_Qx X)
def fx_ET (X : String) : fx_EE := fun _ _ _ s _ args below meth c _ _ _ _ _ QQ => meth.locks = false ∧ c.exceptionTable.toList = [] ∧ fx_zs s ∧ QQ = fun t => ∃ o, t.status = .running ∧ Ended t below o ∧ fx_Qx X args s o t
abbrev fx_sup : List String := ["java/lang/RuntimeException", "java/lang/Exception"]
/-- words of the tables, or what the statics hold -/
def fx_wx (own : String) (ic : Nat) (X : String) : Prop := ∀ w ∈ Bundle.ownAtoms0 own ic X fx_sup, (w ∈ fx_tb ∨ w ∈ fx_xw) ∨ w ∈ fx_zw
section TX
variable {l : Launch} {M : fx_M} {pc : Nat} {ls : List (Option Value)} {vs st : List Value} {h : fx_H} {X : String}
theorem fx_entryX (hy : plainName M.1.cls = true) (hn : (lg_sl vs).length ≤ M.2.2.1) (hls : fx_en vs M.2.2.1 = ls) (k : fx_N l M (1, 6) (fx_ET X) 0 ls [] h) : fx_Mx l M vs h X := by
  subst hls
  intro D g tb sz
  refine MetFree.of_bodyS (code := M.2.1) (maxLocals := M.2.2.1) (ret := M.2.2.2.1) hy ?_ ?_
  · intro args s m h hn
    obtain ⟨meth, c, h1, h2, h3, h4, h5, h6, -, -⟩ := Cond.code_spec hn (atoms_spec (ws := fx_wd M) h _ List.mem_cons_self)
    exact ⟨meth, c, h1, h2, h3, h4, h5, h6⟩
  · intro p e s m args below meth c s₁ Bd hml hv _
    obtain ⟨rfl, ⟨hsz, hP, hK, hD0, hlen, hSt, hxw⟩, hzs⟩ := hv
    subst hsz
    have hts := atoms_spec (ws := fx_wd M) Bd.pre
    have hown : s.vm.findClass M.1.cls = some m.cls := findClass_of_methodNamed Bd.named
    obtain ⟨meth2, c2, w1, w2, -, -, -, w6, w7, -⟩ := Cond.code_spec Bd.named (hts _ List.mem_cons_self)
    have hD := hD0.self (sz := s.heap.size)
    have hA : ∀ q : Nat, s.heap.size ≤ q → va_A (fx_ws g tb h) s.heap.size q := fun q h => Or.inr h
    have hl := lv_entry (vs.map (fx_cv tb h.1)) (n := M.2.2.1) (by rw [fx_sl_len _ (fx_cv_cat tb h.1)]; exact hn)
    have hh0 : s₁.heap = s.heap := by rw [Bd.state]; rfl
    have X0 := Stand.of_body Bd
    have hce : c.exceptionTable.toList = [] := by
      have e1 : meth2 = meth := Option.some.inj (w1.symm.trans Bd.method)
      subst e1
      have e2 : c2 = c := Option.some.inj (w2.symm.trans X0.code)
      subst e2
      simpa using w7
    have K := k p e (fx_rm M (1, 6)) s m _ below meth c (va_A (fx_ws g tb h) s.heap.size) D g tb h.1 _ ⟨Bd.exec, Bd.bytes, hml, hown, fun w hw => hts w (List.mem_cons_of_mem _ hw), hK, hA, hSt, ⟨Nat.le_refl _, Nat.le_refl _, Nat.le_refl _, Nat.le_refl _⟩, (name_of_methodNamed Bd.named Bd.method).1, hxw⟩ ⟨Bd.notSynchronized, hce, hzs, rfl⟩ _ ⟨hP, hD, hlen⟩ (by
      refine fx_has_L hl fun i v hi => ?_
      have := fx_en_at (fx_cv_cat tb h.1) vs 0 _ i v hi
      simpa using this)
    rw [List.map_nil, ← lg_entry_eq] at K
    obtain ⟨t, a1, o, b1, b2, b3⟩ := K s₁ hh0 X0
    exact ⟨t, o, a1, b1, b2, b3⟩
theorem fn_throw {ix ic : Nat} (htl : l.stackTraces = false) (d0 : decode M.2.1 pc = .ok (.new ix, 3)) (d3 : decode M.2.1 (pc + 3) = .ok (.dup, 1)) (d4 : decode M.2.1 (pc + 4) = .ok (.invokespecial ic, 3)) (d7 : decode M.2.1 (pc + 7) = .ok (.athrow, 1)) (hfit : Bundle.fit X = true) (hlk : Cond.classLink M.1.cls ix X ∈ fx_tb) (hin : Cond.instantiable X 6 ∈ fx_tb) (hini : Cond.initialized X ∈ fx_tb) (hwx : fx_wx M.1.cls ic X) (hfr : 6 ≤ M.2.2.2.2.1) (hlc : 100 ≤ M.2.2.2.2.2) : fx_N l M (1, 6) (fx_ET X) pc ls [] h := by
  intro p e R s m args below meth c A D g tb S0 QQ hX hE la hP hL
  obtain ⟨hx, hb, hml, hown, hts, hK, hA, hSt, hRm, hnm, hxw⟩ := id hX
  obtain ⟨hlocks, hexc, hzs, rfl⟩ := hE
  refine W.newc hx hb hown (hts _ hlk) (hts _ hin) (hts _ hini) rfl d0 (by have := hRm.2.2.1; simpa using this) (by have := hRm.2.2.2; simpa using this) fun cX kX hfX hkX hord hn6 => ?_
  refine lv_dup hx hb d3 rfl ?_
  intro T hT X0
  have htr : e.platform.stackTraces = false := by rw [X0.admits.platform]; exact htl
  have hcell : T.heap[s.heap.size]? = some (freshCell cX kX) := by
    rw [hT]
    show (s.heap.push _)[s.heap.size]? = _
    rw [Array.getElem?_push_size]
  have hat : ∀ w ∈ Bundle.ownAtoms0 M.1.cls ic X fx_sup, w.before args s = true := by
    intro w hw
    rcases hwx w hw with (h1 | h1) | h1
    · exact hts w h1
    · exact va_Nw.use (fx_isx_tab (List.mem_filter.mp h1).2) (hxw _ h1)
    · exact hzs.1 w h1 args
  obtain ⟨U, st, run, ended, hW, same, ce, hce, own⟩ := X0.ctorThrow0 hx htr hown hfit (by decide +kernel) hat (fun x hx => absurd hx (by simp)) hfX hkX hcell (Nat.le_refl _) (g := F0 m (pc + 4) la [.ref s.heap.size, .ref s.heap.size]) rfl (by rw [hml]; exact hL.1) rfl rfl (rest := []) rfl (by rw [hb]; exact d4) (by rw [hb]; exact d7) (fun x hx => by rw [hexc] at hx; simp at hx) (by have := hRm.1; simp; omega) (by have h9 := hRm.2.1; have h8 : (Value.ref s.heap.size).category = 1 := rfl; simp [JFrame.monitorRoom, h8]; omega) hlocks
  exact ⟨U, st, .threw s.heap.size, run, ended, ⟨_, rfl, Nat.le_refl _, ce, hce, own.cls, own.vm⟩, hW, same⟩
end TX
