/-! more rows: Object(), Math.min and max, new objects and arrays, calls through an interface -/
theorem fx_Mt.mono {l : Launch} {M : fx_M} {B : Nat × Nat} {vs : List Value} {h : fx_H} {Q Q' : Option Value → fx_H → Prop} (hM : fx_Mt l M B vs h Q) (hQ : ∀ v h2, Q v h2 → Q' v h2) : fx_Mt l M B vs h Q' := by
  intro D g tb sz p e h1 h2 h3 s m args below h4 h5 h6 h7
  obtain ⟨n, o, a1, a2, a3, ⟨⟨v, h9, b1, b2, b3⟩, b4⟩, b5⟩ := hM D g tb sz p e h1 h2 h3 s m args below h4 h5 h6 h7
  exact ⟨n, o, a1, a2, a3, ⟨⟨v, h9, b1, hQ v h9 b2, b3⟩, b4⟩, b5⟩
/-- a new cell at the end -/
def fx_push (h : fx_H) (x : Nat × fx_Sh) : fx_H := (h.1 ++ [x], fun a b => if a = h.1.length then 0 else h.2.1 a b, fun a b => if a = h.1.length then 0 else h.2.2.1 a b, fun a b => if a = h.1.length then 0 else h.2.2.2 a b)
def fx_okS (S : fx_S) : Bool := S.all fun q => match q.2 with
  | .inl o => o.2.all fun r => match r with
    | some q => decide (q < S.length) || decide (1000 ≤ q)
    | none => true
  | .inr _ => true
theorem fx_g_push (S : fx_S) (x : Nat × fx_Sh) : fx_g S 1 (S ++ [x]) := ⟨⟨[x.1], by simp⟩, fun h => by cases h⟩
theorem fx_ws_push {g : ClassId × ClassId × ClassId} {tb : Nat → Nat} {h : fx_H} {x : Nat × fx_Sh} (hok : fx_okS h.1 = true) (hl : h.1.length + 1 < 1000) : fx_ws g tb (fx_push h x) = fx_ws g tb h ++ [(x.1, fx_ce g tb (fx_push h x) h.1.length x.2)] := by
  refine fx_list_ext fun i => ?_
  have hlen : (fx_ws g tb h).length = h.1.length := fx_ws_len g tb h
  have hl2 : (h.1 ++ [x]).length < 1000 := by simp; omega
  by_cases hi : i < h.1.length
  · rw [List.getElem?_append_left (by omega)]
    obtain ⟨q, hq⟩ : ∃ q, h.1[i]? = some q := ⟨h.1[i], List.getElem?_eq_getElem hi⟩
    have hq2 : (fx_push h x).1[i]? = some q := by show (h.1 ++ [x])[i]? = some q; rw [List.getElem?_append_left hi]; exact hq
    rw [fx_ws_at hq2, fx_ws_at hq]
    refine congrArg some (congrArg (Prod.mk q.1) ?_)
    have hne : ¬ i = h.1.length := by omega
    obtain ⟨a2, sh⟩ := q
    match sh with
    | .inl o =>
      have ho : ∀ r ∈ o.2, ∀ q, r = some q → q < h.1.length ∨ 1000 ≤ q := by
        intro r hr q hrq
        have h1 := List.all_eq_true.mp hok _ (List.mem_of_getElem? hq)
        have h2 := List.all_eq_true.mp h1 r hr
        subst hrq
        simpa using h2
      refine congrArg Sum.inr (congrArg (Prod.mk o.1) (List.map_congr_left fun j _ => ?_))
      show fx_fv tb (h.1 ++ [x]) ((fx_push h x).2.1 i) o.1 o.2 j = fx_fv tb h.1 (h.2.1 i) o.1 o.2 j
      simp only [fx_fv, fx_push, hne, if_false]
      cases hr : o.2.getD j none with
      | none => rfl
      | some q =>
        have hm : some q ∈ o.2 := by
          rw [List.getD_eq_getElem?_getD] at hr
          cases h9 : o.2[j]? with
          | none => rw [h9] at hr; cases hr
          | some z => rw [h9] at hr; simp at hr; subst hr; exact List.mem_of_getElem? h9
        have := fx_ad_pre tb (fx_g_push h.1 x) hl2 (n := q) (Or.inr (ho _ hm q rfl))
        simp only [this]
    | .inr (0, n') => simp only [fx_ce, fx_push, hne, if_false]
    | .inr (1, n') => simp only [fx_ce, fx_push, hne, if_false]
    | .inr (_ + 2, n') => simp only [fx_ce, fx_push, hne, if_false]
  · by_cases hi2 : i = h.1.length
    · subst hi2
      have hq2 : (fx_push h x).1[h.1.length]? = some x := by show (h.1 ++ [x])[h.1.length]? = some x; simp
      rw [fx_ws_at hq2, List.getElem?_append_right (by omega), hlen]
      simp
    · rw [List.getElem?_eq_none (by rw [fx_ws_len]; show (h.1 ++ [x]).length ≤ i; simp; omega), List.getElem?_eq_none (by rw [List.length_append, hlen]; simp; omega)]
section FXN
variable {l : Launch} {M : fx_M} {B : Nat × Nat} {Q : Option Value → fx_H → Prop} {c0 s0 c1 s1 pc n ix : Nat} {ls : List (Option Value)} {st rest : List Value} {h : fx_H}
theorem fx_grow {sh : fx_Sh} {a : Nat} {p : Program} {e : Env} {R : Room} {s : State} {m : MethodId} {args : Array Value} {below : List Frame} {meth : Method} {c : Code} {A : Nat → Prop} {D : va_G} {g : ClassId × ClassId × ClassId} {tb : Nat → Nat} {S0 : fx_S} {QQ : State → Prop} {H1 : Heap} {locs : List Loc} {la : Array Slot}
    (hok : fx_okS h.1 = true ∧ fx_okl h.1.length ls = true ∧ rest.all (fx_okr h.1.length) = true ∧ h.1.length + 1 < 1000)
    (hX : fx_X M B p R s m args meth c A D g tb) (hE : fx_E l M B Q p e R s m args below meth c A D g tb S0 QQ) (hG : fx_g S0 c0 h.1) (hL : fx_L (fx_cv tb h.1) la M.2.2.1 ls) (hc1 : c0 + 1 = c1)
    (q1 : va_P D fx_cl (fx_ws g tb h ++ [(a, fx_ce g tb (fx_push h (a, sh)) h.1.length sh)]) H1) (q2 : va_D A (fx_ws g tb h ++ [(a, fx_ce g tb (fx_push h (a, sh)) h.1.length sh)])) (q3 : va_S A s.heap H1 locs)
    (k : fx_V l M B Q c1 s1 n ls (.ref h.1.length :: rest) (fx_push h (a, sh))) : W p l e R s m args below meth c H1 locs c1 s1 QQ (F0 m n la (.ref a :: rest.map (fx_cv tb h.1))) := by
  obtain ⟨o1, o2, o3, o4⟩ := hok
  subst hc1
  have hw := fx_ws_push (g := g) (tb := tb) (x := (a, sh)) o1 o4
  rw [← hw] at q1 q2
  have hl2 : (h.1 ++ [(a, sh)]).length < 1000 := by simp; omega
  have hcv : ∀ w : Value, fx_okr h.1.length w = true → fx_cv tb (h.1 ++ [(a, sh)]) w = fx_cv tb h.1 w := fun w hw => fx_cv_pre tb (fx_g_push h.1 (a, sh)) hl2 (Or.inr hw)
  have hL2 : fx_L (fx_cv tb (fx_push h (a, sh)).1) la M.2.2.1 ls := by
    refine ⟨hL.1, hL.2.1, fun i w hi => ?_⟩
    show la[i]? = some (.val (fx_cv tb (h.1 ++ [(a, sh)]) w))
    rw [hcv w (List.all_eq_true.mp o2 (some w) (List.mem_of_getElem? hi))]
    exact hL.2.2 i w hi
  have k2 := k p e R s m args below meth c A D g tb S0 QQ hX hE H1 locs la ⟨q1, q2, hl2⟩ q3 (fx_g_trans hG (fx_g_push h.1 (a, sh))) hL2
  have hst : ((Value.ref h.1.length) :: rest).map (fx_cv tb (fx_push h (a, sh)).1) = .ref a :: rest.map (fx_cv tb h.1) := by
    rw [List.map_cons]
    have h1 : fx_cv tb (fx_push h (a, sh)).1 (.ref h.1.length) = .ref a := by
      have hq2 : (fx_push h (a, sh)).1[h.1.length]? = some (a, sh) := by show (h.1 ++ [(a, sh)])[h.1.length]? = _; simp
      simp only [fx_cv, fx_ad_at hq2]
    rw [h1]
    congr 1
    exact List.map_congr_left fun w hw => hcv w (List.all_eq_true.mp o3 w hw)
  rw [hst] at k2
  exact k2
theorem fx_new {ci N : Nat} {C : String} {T : u_T} {ty : Nat → FieldType} (d : decode M.2.1 pc = .ok (.new ix, 3)) (hC : fx_Cl ci C T N ty) (hw : Cond.classLink M.1.cls ix C ∈ fx_tb) (hok : fx_okS h.1 = true ∧ fx_okl h.1.length ls = true ∧ rest.all (fx_okr h.1.length) = true ∧ h.1.length + 1 < 1000) (hB : c0 + 1 ≤ B.1 ∧ s0 + N ≤ B.2)
    (k : ∀ a : Nat, fx_V l M B Q c1 s1 n ls (.ref h.1.length :: rest) (fx_push h (a, .inl (ci, List.replicate N none)))) (hn : pc + 3 = n := by rfl) (hc1 : c0 + 1 = c1 := by rfl) (hs1 : s0 + N = s1 := by rfl) : fx_V l M B Q c0 s0 pc ls rest h := by
  subst hn; subst hs1; subst hc1
  intro p e R s m args below meth c A D g tb S0 QQ hX hE H locs la hP hS hG hL
  obtain ⟨hx, hb, hml, hown, hts, hK, hA, hSt, hRm, hnm, hxw⟩ := id hX
  obtain ⟨c1', c2, c3, c4, c5, c6, c7, c8⟩ := hC
  refine va_new (D := D) (ci := ci) (C := C) (T := T) (N := N) (fs := fx_ob tb (h.1 ++ [(0, .inl (ci, List.replicate N none))]) (fun _ => 0) ci (List.replicate N none)) hx hb hts c2 ty c3 hown (hts _ hw) (hts _ c6) (hts _ c7) hK hP.1 hP.2.1 hS hA c1' (fun j hj => ?_) (Nat.le_trans hB.1 hRm.2.2.1) (Nat.le_trans hB.2 hRm.2.2.2) d (fun q H1 q1 q2 q3 => ?_)
  · rw [c8 j hj]
    unfold vp_V
    rw [List.getD_eq_getElem?_getD, fx_ob_at _ _ _ _ _ (by rw [c5]; exact hj), Option.getD_some]
    unfold fx_fv
    have : (List.replicate N (none : Option Nat)).getD j none = none := by
      rw [List.getD_eq_getElem?_getD, List.getElem?_replicate, if_pos hj]; rfl
    rw [this]
    cases fx_kd ci j <;> rfl
  · have hce : (q, (Sum.inr (ci, fx_ob tb (h.1 ++ [(0, .inl (ci, List.replicate N none))]) (fun _ => 0) ci (List.replicate N none)) : va_E)) = (q, fx_ce g tb (fx_push h (q, .inl (ci, List.replicate N none))) h.1.length (.inl (ci, List.replicate N none))) := by
      refine congrArg (Prod.mk q) (congrArg Sum.inr (congrArg (Prod.mk ci) (List.map_congr_left fun j hj => ?_)))
      have hj2 : j < N := by rw [← c5]; exact List.mem_range.mp hj
      have : (List.replicate N (none : Option Nat)).getD j none = none := by
        rw [List.getD_eq_getElem?_getD, List.getElem?_replicate, if_pos hj2]; rfl
      simp only [fx_fv, this, fx_push, if_true]
    rw [hce] at q1 q2
    exact fx_grow hok hX hE hG hL rfl q1 q2 q3 (k q)
theorem fx_newa {at_ : ArrayType} {kd N : Nat} {a0 : Int} {ty : FieldType} (d : decode M.2.1 pc = .ok (.newarray at_, 2)) (hw : Cond.arrayClass (newarray.typeOf at_) ∈ fx_tb) (hty : newarray.typeOf at_ = ty) (hkd : kd = 0 ∧ ty = .int ∨ kd = 1 ∧ ty = .boolean ∨ kd = 2 ∧ ty = .long) (hN : a0 = (N : Int)) (hN2 : N < 100000)
    (hok : fx_okS h.1 = true ∧ fx_okl h.1.length ls = true ∧ rest.all (fx_okr h.1.length) = true ∧ h.1.length + 1 < 1000) (hB : c0 + 1 ≤ B.1 ∧ s0 + N ≤ B.2)
    (k : ∀ a : Nat, fx_V l M B Q c1 s1 n ls (.ref h.1.length :: rest) (fx_push h (a, .inr (kd, N)))) (hn : pc + 2 = n := by rfl) (hc1 : c0 + 1 = c1 := by rfl) (hs1 : s0 + N = s1 := by rfl) : fx_V l M B Q c0 s0 pc ls (.int (zI a0) :: rest) h := by
  subst hn; subst hs1; subst hc1; subst hN
  intro p e R s m args below meth c A D g tb S0 QQ hX hE H locs la hP hS hG hL
  obtain ⟨hx, hb, hml, hown, hts, hK, hA, hSt, hRm, hnm, hxw⟩ := id hX
  have hz : zR (N : Int) := ⟨by omega, by omega⟩
  have hneg : ¬ zI (N : Int) < 0 := by
    intro z
    have z2 : zI (N : Int) < zI 0 := z
    have := (zI_lt hz zR_0).mp z2
    omega
  have hcl : (zI (N : Int)).toNatClampNeg = N := by rw [zI_clamp hz]; simp
  have huniq : ∀ (cA : ClassId) (t0 : Nat) (cB : ClassId), (fx_ty g)[t0]? = some (cB, ty) → va_K D fx_cl (fx_ty g ++ [(cA, ty)]) s → (ty = .int ∨ ty = .boolean ∨ ty = .long) → cA = cB := by
    intro cA t0 cB h0 h9 ht
    have r1 := (hK.2 t0 (cB, ty) h0).2
    have r2 := (h9.2 (fx_ty g).length (cA, ty) (by simp)).2
    rcases ht with rfl | rfl | rfl <;> exact Option.some.inj (r2.symm.trans r1)
  rcases hkd with ⟨rfl, rfl⟩ | ⟨rfl, rfl⟩ | ⟨rfl, rfl⟩
  · refine va_newa hx hb (hts _ hw) hty hK hP.1 hP.2.1 hS hA (N' := N) (a0 := (N, .inl (fun _ => zI 0))) (fun cA => rfl) hneg hcl (by show N * 4 ≤ 536870912; omega) (Nat.le_trans hB.1 hRm.2.2.1) (Nat.le_trans hB.2 hRm.2.2.2) d (fun q cA H1 q0 q1 q2 q3 => ?_)
    obtain rfl := huniq cA 0 g.1 rfl q0 (Or.inl rfl)
    have hce : (q, (Sum.inl (g.1, N, .inl (fun _ => zI 0)) : va_E)) = (q, fx_ce g tb (fx_push h (q, .inr (0, N))) h.1.length (.inr (0, N))) := by
      simp only [fx_ce, fx_push, if_true]
    rw [hce] at q1 q2
    exact fx_grow hok hX hE hG hL rfl q1 q2 q3 (k q)
  · refine va_newa hx hb (hts _ hw) hty hK hP.1 hP.2.1 hS hA (N' := N) (a0 := (N, .inl (fun _ => zI 0))) (fun cA => rfl) hneg hcl (by show N * 1 ≤ 536870912; omega) (Nat.le_trans hB.1 hRm.2.2.1) (Nat.le_trans hB.2 hRm.2.2.2) d (fun q cA H1 q0 q1 q2 q3 => ?_)
    obtain rfl := huniq cA 1 g.2.1 rfl q0 (Or.inr (Or.inl rfl))
    have hce : (q, (Sum.inl (g.2.1, N, .inl (fun _ => zI 0)) : va_E)) = (q, fx_ce g tb (fx_push h (q, .inr (1, N))) h.1.length (.inr (1, N))) := by
      simp only [fx_ce, fx_push, if_true]
    rw [hce] at q1 q2
    exact fx_grow hok hX hE hG hL rfl q1 q2 q3 (k q)
  · refine va_newa hx hb (hts _ hw) hty hK hP.1 hP.2.1 hS hA (N' := N) (a0 := (N, .inr (.inl (fun _ => zL 0)))) (fun cA => rfl) hneg hcl (by show N * 8 ≤ 536870912; omega) (Nat.le_trans hB.1 hRm.2.2.1) (Nat.le_trans hB.2 hRm.2.2.2) d (fun q cA H1 q0 q1 q2 q3 => ?_)
    obtain rfl := huniq cA 2 g.2.2 rfl q0 (Or.inr (Or.inr rfl))
    have hce : (q, (Sum.inl (g.2.2, N, .inr (.inl (fun _ => zL 0))) : va_E)) = (q, fx_ce g tb (fx_push h (q, .inr (2, N))) h.1.length (.inr (2, N))) := by
      simp only [fx_ce, fx_push, if_true]
    rw [hce] at q1 q2
    exact fx_grow hok hX hE hG hL rfl q1 q2 q3 (k q)
theorem fx_oinit {b0 : Nat} (d : decode M.2.1 pc = .ok (.invokespecial ix, 3)) (hw1 : Cond.methodLink M.1.cls ix objectInit ∈ fx_tb) (hw2 : Cond.instanceMethod objectInit ∈ fx_tb) (hw3 : Cond.code objectInit ⟨#[0xb1]⟩ 1 none ∈ fx_tb) (hr : 1 ≤ M.2.2.2.2.1 ∧ 21 ≤ M.2.2.2.2.2) (hw8 : (rest.map fun v => v.category).sum ≤ 8) (k : fx_V l M B Q c0 s0 n ls rest h) (hn : pc + 3 = n := by rfl) : fx_V l M B Q c0 s0 pc ls (.ref b0 :: rest) h := by
  subst hn
  intro p e R s m args below meth c A D g tb S0 QQ hX hE H locs la hP hS hG hL
  obtain ⟨hx, hb, hml, hown, hts, hK, hA, hSt, hRm, hnm, hxw⟩ := id hX
  have h8 := fx_w8 (m := m) (pc := pc) (la := la) (st := (Value.ref b0 :: rest).map (fx_cv tb h.1)) (tb := tb) (S := h.1) hw8
  exact W.objInit hx hb hown (hts _ hw1) (hts _ hw2) (hts _ hw3) rfl (hL.1.trans hml.symm) rfl d (by omega) (by omega) (k p e R s m args below meth c A D g tb S0 QQ hX hE H locs la hP hS hG hL)
theorem fx_min {a b : Int} (d : decode M.2.1 pc = .ok (.invokestatic ix, 3)) (hw1 : Cond.methodLink M.1.cls ix Lib.Math.min.name ∈ fx_tb) (hw2 : Cond.static Lib.Math.min.name ∈ fx_tb) (hw3 : Cond.initialized "java/lang/Math" ∈ fx_tb) (hw4 : Cond.code Lib.Math.min.name Lib.Math.min.code 2 (some .int) ∈ fx_tb) (hr : 1 ≤ M.2.2.2.2.1 ∧ 21 ≤ M.2.2.2.2.2) (hw8 : (rest.map fun v => v.category).sum ≤ 8) (hB : c0 ≤ B.1 ∧ s0 ≤ B.2) (ha : zR a) (hb2 : zR b) (k : fx_V l M B Q c0 s0 n ls (.int (zI (if b < a then b else a)) :: rest) h) (hn : pc + 3 = n := by rfl) : fx_V l M B Q c0 s0 pc ls (.int (zI b) :: .int (zI a) :: rest) h := by
  subst hn
  intro p e R s m args below meth c A D g tb S0 QQ hX hE H locs la hP hS hG hL
  obtain ⟨hx, hb, hml, hown, hts, hK, hA, hSt, hRm, hnm, hxw⟩ := id hX
  have h8 := fx_w8 (m := m) (pc := pc) (la := la) (st := rest) (tb := tb) (S := h.1) hw8
  have k2 := k p e R s m args below meth c A D g tb S0 QQ hX hE H locs la hP hS hG hL
  have hz : zI (if b < a then b else a) = if zI b < zI a then zI b else zI a := by
    by_cases hh : b < a
    · rw [if_pos hh, if_pos ((zI_lt hb2 ha).mpr hh)]
    · rw [if_neg hh, if_neg (fun z => hh ((zI_lt hb2 ha).mp z))]
  rw [hz] at k2
  exact va_mmin hx hb (hml.trans hL.1.symm) hown (hts _ hw1) (hts _ hw2) (hts _ hw3) (hts _ hw4) (by omega) (by omega) (Nat.le_trans hB.1 hRm.2.2.1) (Nat.le_trans hB.2 hRm.2.2.2) d k2
theorem fx_max {a b : Int} (d : decode M.2.1 pc = .ok (.invokestatic ix, 3)) (hw1 : Cond.methodLink M.1.cls ix Lib.Math.max.name ∈ fx_tb) (hw2 : Cond.static Lib.Math.max.name ∈ fx_tb) (hw3 : Cond.initialized "java/lang/Math" ∈ fx_tb) (hw4 : Cond.code Lib.Math.max.name Lib.Math.max.code 2 (some .int) ∈ fx_tb) (hr : 1 ≤ M.2.2.2.2.1 ∧ 21 ≤ M.2.2.2.2.2) (hw8 : (rest.map fun v => v.category).sum ≤ 8) (hB : c0 ≤ B.1 ∧ s0 ≤ B.2) (ha : zR a) (hb2 : zR b) (k : fx_V l M B Q c0 s0 n ls (.int (zI (if a < b then b else a)) :: rest) h) (hn : pc + 3 = n := by rfl) : fx_V l M B Q c0 s0 pc ls (.int (zI b) :: .int (zI a) :: rest) h := by
  subst hn
  intro p e R s m args below meth c A D g tb S0 QQ hX hE H locs la hP hS hG hL
  obtain ⟨hx, hb, hml, hown, hts, hK, hA, hSt, hRm, hnm, hxw⟩ := id hX
  have h8 := fx_w8 (m := m) (pc := pc) (la := la) (st := rest) (tb := tb) (S := h.1) hw8
  have k2 := k p e R s m args below meth c A D g tb S0 QQ hX hE H locs la hP hS hG hL
  have hz : zI (if a < b then b else a) = if zI a < zI b then zI b else zI a := by
    by_cases hh : a < b
    · rw [if_pos hh, if_pos ((zI_lt ha hb2).mpr hh)]
    · rw [if_neg hh, if_neg (fun z => hh ((zI_lt ha hb2).mp z))]
  rw [hz] at k2
  exact va_mmax hx hb (hml.trans hL.1.symm) hown (hts _ hw1) (hts _ hw2) (hts _ hw3) (hts _ hw4) (by omega) (by omega) (Nat.le_trans hB.1 hRm.2.2.1) (Nat.le_trans hB.2 hRm.2.2.2) d k2
end FXN
