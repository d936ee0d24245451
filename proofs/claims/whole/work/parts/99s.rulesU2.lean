/-! more rules for walks with an end of their own -/
section FYS
variable {l : Launch} {M M' : fx_M} {B B' : Nat × Nat} {Q : fx_EE} {c0 s0 c1 s1 pc n ix np : Nat} {ls ls2 : List (Option Value)} {st rest vs : List Value} {h : fx_H}
theorem fy_aload {i x : Nat} (d : decode M.2.1 pc = .ok (.aload i, 2)) (hx : ls[i]? = some (some (.ref x))) (k : fx_U l M B Q c0 s0 n ls (.ref x :: rest) h) (hn : pc + 2 = n := by rfl) : fx_U l M B Q c0 s0 pc ls (rest) h := by
  subst hn
  intro p e R s m args below meth c A D g tb S0 QQ hX hE H locs la hP hS hG hL
  exact lv_aload hX.1 hX.2.1 d (hL.2.2 i (.ref x) hx) (k p e R s m args below meth c A D g tb S0 QQ hX hE H locs la hP hS hG hL)
theorem fy_astore_n {z : Fin 4} {i x : Nat} (d : decode M.2.1 pc = .ok (.astore_n z, 1)) (hi : (z : Nat) = i) (hb : i < M.2.2.1) (hs : fx_s1 i (.ref x) ls = ls2) (k : fx_U l M B Q c0 s0 n ls2 rest h) (hn : pc + 1 = n := by rfl) : fx_U l M B Q c0 s0 pc ls (.ref x :: rest) h := by
  subst hn
  subst hs
  intro p e R s m args below meth c A D g tb S0 QQ hX hE H locs la hP hS hG hL
  exact lv_astore_n hX.1 hX.2.1 d hi (fx_L_has hL) hb rfl (fun la2 h2 => k p e R s m args below meth c A D g tb S0 QQ hX hE H locs la2 hP hS hG (fx_L_s1 (v := .ref x) (fx_cv_cat tb h.1) h2))
theorem fy_astore {i x : Nat} (d : decode M.2.1 pc = .ok (.astore i, 2)) (hb : i < M.2.2.1) (hs : fx_s1 i (.ref x) ls = ls2) (k : fx_U l M B Q c0 s0 n ls2 rest h) (hn : pc + 2 = n := by rfl) : fx_U l M B Q c0 s0 pc ls (.ref x :: rest) h := by
  subst hn
  subst hs
  intro p e R s m args below meth c A D g tb S0 QQ hX hE H locs la hP hS hG hL
  exact lv_astore hX.1 hX.2.1 d (fx_L_has hL) hb rfl (fun la2 h2 => k p e R s m args below meth c A D g tb S0 QQ hX hE H locs la2 hP hS hG (fx_L_s1 (v := .ref x) (fx_cv_cat tb h.1) h2))
theorem fy_last {p0 a n0 : Nat} {i : Int} {x : Int} (d : decode M.2.1 pc = .ok (.lastore, 1)) (hq : h.1[p0]? = some (a, .inr (2, n0))) (h0 : 0 ≤ i) (hi : i < n0) (hb0 : n0 < 2147483648) (k : fx_U l M B Q c0 s0 n ls rest (fx_uL h p0 i.toNat x)) (hn : pc + 1 = n := by rfl) : fx_U l M B Q c0 s0 pc ls (.long (zL x) :: .int (zI i) :: .ref p0 :: rest) h := by
  subst hn
  intro p e R s m args below meth c A D g tb S0 QQ hX hE H locs la hP hS hG hL
  obtain ⟨hx, hb, hml, hown, hts, hK, hA, hSt, hRm, hnm, hxw⟩ := id hX
  have he := fx_ws_at (g := g) (tb := tb) hq
  have ha : fx_cv tb h.1 (.ref p0) = .ref a := by simp only [fx_cv, fx_ad_at hq]
  rw [List.map_cons, List.map_cons, List.map_cons, ha]
  have hcl : (zI i).toNatClampNeg = i.toNat := zI_clamp ⟨by omega, by omega⟩
  exact va_last hx hb hK hP.1 hP.2.1 hS p0 2 he rfl (zI_in h0 hi hb0) d (fun H1 locs1 q1 q2 q3 => by
    rw [hcl, fx_ws_uL hq] at q1 q2
    exact k p e R s m args below meth c A D g tb S0 QQ hX hE H1 locs1 la ⟨q1, q2, hP.2.2⟩ q3 hG hL)
theorem fy_lald {p0 a n0 : Nat} {i : Int} (d : decode M.2.1 pc = .ok (.laload, 1)) (hq : h.1[p0]? = some (a, .inr (2, n0))) (h0 : 0 ≤ i) (hi : i < n0) (hb0 : n0 < 2147483648) (k : fx_U l M B Q c0 s0 n ls (.long (zL (h.2.2.2 p0 i.toNat)) :: rest) h) (hn : pc + 1 = n := by rfl) : fx_U l M B Q c0 s0 pc ls (.int (zI i) :: .ref p0 :: rest) h := by
  subst hn
  intro p e R s m args below meth c A D g tb S0 QQ hX hE H locs la hP hS hG hL
  obtain ⟨hx, hb, hml, hown, hts, hK, hA, hSt, hRm, hnm, hxw⟩ := id hX
  have he := fx_ws_at (g := g) (tb := tb) hq
  have ha : fx_cv tb h.1 (.ref p0) = .ref a := by simp only [fx_cv, fx_ad_at hq]
  rw [List.map_cons, List.map_cons, ha]
  have hcl : (zI i).toNatClampNeg = i.toNat := zI_clamp ⟨by omega, by omega⟩
  have k2 := (k p e R s m args below meth c A D g tb S0 QQ hX hE H locs la hP hS hG hL)
  rw [← hcl] at k2
  exact va_lald hx hb hK hP.1 p0 2 he rfl (zI_in h0 hi hb0) d k2
theorem fy_lload {i : Nat} {x : Int64} (d : decode M.2.1 pc = .ok (.lload i, 2)) (hx : ls[i]? = some (some (.long x))) (k : fx_U l M B Q c0 s0 n ls (.long x :: rest) h) (hn : pc + 2 = n := by rfl) : fx_U l M B Q c0 s0 pc ls (rest) h := by
  subst hn
  intro p e R s m args below meth c A D g tb S0 QQ hX hE H locs la hP hS hG hL
  exact lv_lload hX.1 hX.2.1 d (hL.2.2 i (.long x) hx) (k p e R s m args below meth c A D g tb S0 QQ hX hE H locs la hP hS hG hL)
theorem fy_iadd {a b : Int} (d : decode M.2.1 pc = .ok (.iadd, 1)) (k : fx_U l M B Q c0 s0 n ls (.int (zI (a + b)) :: rest) h) (hn : pc + 1 = n := by rfl) : fx_U l M B Q c0 s0 pc ls (.int (zI b) :: .int (zI a) :: rest) h := by
  subst hn
  intro p e R s m args below meth c A D g tb S0 QQ hX hE H locs la hP hS hG hL
  have k2 := (k p e R s m args below meth c A D g tb S0 QQ hX hE H locs la hP hS hG hL)
  rw [List.map_cons] at k2
  have hz : fx_cv tb h.1 (.int (zI (a + b))) = .int (zI (a + b)) := rfl
  rw [hz, ← zI_add a b] at k2
  exact lv_iadd hX.1 hX.2.1 d k2
theorem fy_and15 {a : Int} (d : decode M.2.1 pc = .ok (.iand, 1)) (k : fx_U l M B Q c0 s0 n ls (.int (zI (a % 16)) :: rest) h) (hn : pc + 1 = n := by rfl) : fx_U l M B Q c0 s0 pc ls (.int (zI 15) :: .int (zI a) :: rest) h := by
  subst hn
  intro p e R s m args below meth c A D g tb S0 QQ hX hE H locs la hP hS hG hL
  have k2 := (k p e R s m args below meth c A D g tb S0 QQ hX hE H locs la hP hS hG hL)
  rw [List.map_cons] at k2
  have hz : fx_cv tb h.1 (.int (zI (a % 16))) = .int (zI (a % 16)) := rfl
  rw [hz, ← zI_and15 a] at k2
  exact lv_iand hX.1 hX.2.1 d k2
theorem fy_iinc {i : Nat} {z x v : Int} (d : decode M.2.1 pc = .ok (.iinc i z, 3)) (hx : ls[i]? = some (some (.int (zI x)))) (hv : x + z = v) (hb : i < M.2.2.1) (hs : fx_s1 i (.int (zI v)) ls = ls2) (k : fx_U l M B Q c0 s0 n ls2 rest h) (hn : pc + 3 = n := by rfl) : fx_U l M B Q c0 s0 pc ls rest h := by
  subst hn
  subst hs
  subst hv
  intro p e R s m args below meth c A D g tb S0 QQ hX hE H locs la hP hS hG hL
  have hm : (i, fx_cv tb h.1 (.int (zI x))) ∈ fx_as (fx_cv tb h.1) 0 ls := (fx_as_mem ls 0 _).mpr ⟨.int (zI x), Nat.zero_le _, by simpa using hx, rfl⟩
  obtain ⟨j, hj⟩ := List.getElem?_of_mem hm
  exact lv_iinc hX.1 hX.2.1 d (fx_L_has hL) hj (zI_add x z) hb rfl (fun la2 h2 => k p e R s m args below meth c A D g tb S0 QQ hX hE H locs la2 hP hS hG (fx_L_s1 (v := .int (zI (x + z))) (fx_cv_cat tb h.1) h2))
theorem fy_tableIn {dflt lo hi off : Int} {offs : Array Int} {len : Nat} {a : Int} (d : decode M.2.1 pc = .ok (.tableswitch dflt lo hi offs, len)) (ha : zR a) (h1 : ¬ a < lo) (h2 : ¬ hi < a) (ho : offs[(a - lo).toNat]? = some off) (k : fx_U l M B Q c0 s0 n ls rest h) (ht : (pc : Int) + off = (n : Int) := by rfl) : fx_U l M B Q c0 s0 pc ls (.int (zI a) :: rest) h := by
  intro p e R s m args below meth c A D g tb S0 QQ hX hE H locs la hP hS hG hL
  have hz := zI_toInt ha
  exact lv_tableIn hX.1 hX.2.1 d (by rw [hz]; exact h1) (by rw [hz]; exact h2) (by rw [hz]; exact ho) ht (k p e R s m args below meth c A D g tb S0 QQ hX hE H locs la hP hS hG hL)
theorem fy_tableOut {dflt lo hi : Int} {offs : Array Int} {len : Nat} {a : Int} (d : decode M.2.1 pc = .ok (.tableswitch dflt lo hi offs, len)) (ha : zR a) (h1 : a < lo ∨ hi < a) (k : fx_U l M B Q c0 s0 n ls rest h) (ht : (pc : Int) + dflt = (n : Int) := by rfl) : fx_U l M B Q c0 s0 pc ls (.int (zI a) :: rest) h := by
  intro p e R s m args below meth c A D g tb S0 QQ hX hE H locs la hP hS hG hL
  have hz := zI_toInt ha
  exact lv_tableOut hX.1 hX.2.1 d (by rw [hz]; exact h1) ht (k p e R s m args below meth c A D g tb S0 QQ hX hE H locs la hP hS hG hL)
theorem fy_dup {v : Value} (d : decode M.2.1 pc = .ok (.dup, 1)) (hv : v.category = 1) (k : fx_U l M B Q c0 s0 n ls (v :: v :: rest) h) (hn : pc + 1 = n := by rfl) : fx_U l M B Q c0 s0 pc ls (v :: rest) h := by
  subst hn
  intro p e R s m args below meth c A D g tb S0 QQ hX hE H locs la hP hS hG hL
  exact lv_dup hX.1 hX.2.1 d ((fx_cv_cat tb h.1 v).trans hv) (k p e R s m args below meth c A D g tb S0 QQ hX hE H locs la hP hS hG hL)
theorem fy_grow {sh : fx_Sh} {a : Nat} {p : Program} {e : Env} {R : Room} {s : State} {m : MethodId} {args : Array Value} {below : List Frame} {meth : Method} {c : Code} {A : Nat → Prop} {D : va_G} {g : ClassId × ClassId × ClassId} {tb : Nat → Nat} {S0 : fx_S} {QQ : State → Prop} {H1 : Heap} {locs : List Loc} {la : Array Slot}
    (hok : fx_okS h.1 = true ∧ fx_okl h.1.length ls = true ∧ rest.all (fx_okr h.1.length) = true ∧ h.1.length + 1 < 1000)
    (hX : fx_X M B p R s m args meth c A D g tb) (hE : Q p e R s m args below meth c A D g tb S0 QQ) (hG : fx_g S0 c0 h.1) (hL : fx_L (fx_cv tb h.1) la M.2.2.1 ls) (hc1 : c0 + 1 = c1)
    (q1 : va_P D fx_cl (fx_ws g tb h ++ [(a, fx_ce g tb (fx_push h (a, sh)) h.1.length sh)]) H1) (q2 : va_D A (fx_ws g tb h ++ [(a, fx_ce g tb (fx_push h (a, sh)) h.1.length sh)])) (q3 : va_S A s.heap H1 locs)
    (k : fx_U l M B Q c1 s1 n ls (.ref h.1.length :: rest) (fx_push h (a, sh))) : W p l e R s m args below meth c H1 locs c1 s1 QQ (F0 m n la (.ref a :: rest.map (fx_cv tb h.1))) := by
  obtain ⟨o1, o2, o3, o4⟩ := hok
  subst hc1
  have hw := fx_ws_push (g := g) (tb := tb) (x := (a, sh)) o1 o4
  rw [← hw] at q1 q2
  have hl2 : (h.1 ++ [(a, sh)]).length < 1000 := by simp; omega
  have hcv : ∀ w : Value, fx_okr h.1.length w = true → fx_cv tb (h.1 ++ [(a, sh)]) w = fx_cv tb h.1 w := fun w hw => fx_cv_pre tb (fx_g_push h.1 (a, sh)) hl2 (Or.inr hw)
  have hL2 : fx_L (fx_cv tb (fx_push h (a, sh)).1) la M.2.2.1 ls := by
    refine ⟨hL.1, hL.2.1, fun i w hi => ?_⟩
    show la[i]? = some (.val (fx_cv tb (h.1 ++ [(a, sh)]) w))
    rw [hcv w (List.all_eq_true.mp o2 (some w) (List.mem_of_getElem? hi))]
    exact hL.2.2 i w hi
  have k2 := k p e R s m args below meth c A D g tb S0 QQ hX hE H1 locs la ⟨q1, q2, hl2⟩ q3 (fx_g_trans hG (fx_g_push h.1 (a, sh))) hL2
  have hst : ((Value.ref h.1.length) :: rest).map (fx_cv tb (fx_push h (a, sh)).1) = .ref a :: rest.map (fx_cv tb h.1) := by
    rw [List.map_cons]
    have h1 : fx_cv tb (fx_push h (a, sh)).1 (.ref h.1.length) = .ref a := by
      have hq2 : (fx_push h (a, sh)).1[h.1.length]? = some (a, sh) := by show (h.1 ++ [(a, sh)])[h.1.length]? = _; simp
      simp only [fx_cv, fx_ad_at hq2]
    rw [h1]
    congr 1
    exact List.map_congr_left fun w hw => hcv w (List.all_eq_true.mp o3 w hw)
  rw [hst] at k2
  exact k2
theorem fy_new {ci N : Nat} {C : String} {T : u_T} {ty : Nat → FieldType} (d : decode M.2.1 pc = .ok (.new ix, 3)) (hC : fx_Cl ci C T N ty) (hw : Cond.classLink M.1.cls ix C ∈ fx_tb) (hok : fx_okS h.1 = true ∧ fx_okl h.1.length ls = true ∧ rest.all (fx_okr h.1.length) = true ∧ h.1.length + 1 < 1000) (hB : c0 + 1 ≤ B.1 ∧ s0 + N ≤ B.2)
    (k : ∀ a : Nat, fx_U l M B Q c1 s1 n ls (.ref h.1.length :: rest) (fx_push h (a, .inl (ci, List.replicate N none)))) (hn : pc + 3 = n := by rfl) (hc1 : c0 + 1 = c1 := by rfl) (hs1 : s0 + N = s1 := by rfl) : fx_U l M B Q c0 s0 pc ls rest h := by
  subst hn; subst hs1; subst hc1
  intro p e R s m args below meth c A D g tb S0 QQ hX hE H locs la hP hS hG hL
  obtain ⟨hx, hb, hml, hown, hts, hK, hA, hSt, hRm, hnm, hxw⟩ := id hX
  obtain ⟨c1', c2, c3, c4, c5, c6, c7, c8⟩ := hC
  refine va_new (D := D) (ci := ci) (C := C) (T := T) (N := N) (fs := fx_ob tb (h.1 ++ [(0, .inl (ci, List.replicate N none))]) (fun _ => 0) ci (List.replicate N none)) hx hb hts c2 ty c3 hown (hts _ hw) (hts _ c6) (hts _ c7) hK hP.1 hP.2.1 hS hA c1' (fun j hj => ?_) (Nat.le_trans hB.1 hRm.2.2.1) (Nat.le_trans hB.2 hRm.2.2.2) d (fun q H1 q1 q2 q3 => ?_)
  · rw [c8 j hj]
    unfold vp_V
    rw [List.getD_eq_getElem?_getD, fx_ob_at _ _ _ _ _ (by rw [c5]; exact hj), Option.getD_some]
    unfold fx_fv
    have : (List.replicate N (none : Option Nat)).getD j none = none := by
      rw [List.getD_eq_getElem?_getD, List.getElem?_replicate, if_pos hj]; rfl
    rw [this]
    cases fx_kd ci j <;> rfl
  · have hce : (q, (Sum.inr (ci, fx_ob tb (h.1 ++ [(0, .inl (ci, List.replicate N none))]) (fun _ => 0) ci (List.replicate N none)) : va_E)) = (q, fx_ce g tb (fx_push h (q, .inl (ci, List.replicate N none))) h.1.length (.inl (ci, List.replicate N none))) := by
      refine congrArg (Prod.mk q) (congrArg Sum.inr (congrArg (Prod.mk ci) (List.map_congr_left fun j hj => ?_)))
      have hj2 : j < N := by rw [← c5]; exact List.mem_range.mp hj
      have : (List.replicate N (none : Option Nat)).getD j none = none := by
        rw [List.getD_eq_getElem?_getD, List.getElem?_replicate, if_pos hj2]; rfl
      simp only [fx_fv, this, fx_push, if_true]
    rw [hce] at q1 q2
    exact fy_grow hok hX hE hG hL rfl q1 q2 q3 (k q)
theorem fy_newa {at_ : ArrayType} {kd N : Nat} {a0 : Int} {ty : FieldType} (d : decode M.2.1 pc = .ok (.newarray at_, 2)) (hw : Cond.arrayClass (newarray.typeOf at_) ∈ fx_tb) (hty : newarray.typeOf at_ = ty) (hkd : kd = 0 ∧ ty = .int ∨ kd = 1 ∧ ty = .boolean ∨ kd = 2 ∧ ty = .long) (hN : a0 = (N : Int)) (hN2 : N < 100000)
    (hok : fx_okS h.1 = true ∧ fx_okl h.1.length ls = true ∧ rest.all (fx_okr h.1.length) = true ∧ h.1.length + 1 < 1000) (hB : c0 + 1 ≤ B.1 ∧ s0 + N ≤ B.2)
    (k : ∀ a : Nat, fx_U l M B Q c1 s1 n ls (.ref h.1.length :: rest) (fx_push h (a, .inr (kd, N)))) (hn : pc + 2 = n := by rfl) (hc1 : c0 + 1 = c1 := by rfl) (hs1 : s0 + N = s1 := by rfl) : fx_U l M B Q c0 s0 pc ls (.int (zI a0) :: rest) h := by
  subst hn; subst hs1; subst hc1; subst hN
  intro p e R s m args below meth c A D g tb S0 QQ hX hE H locs la hP hS hG hL
  obtain ⟨hx, hb, hml, hown, hts, hK, hA, hSt, hRm, hnm, hxw⟩ := id hX
  have hz : zR (N : Int) := ⟨by omega, by omega⟩
  have hneg : ¬ zI (N : Int) < 0 := by
    intro z
    have z2 : zI (N : Int) < zI 0 := z
    have := (zI_lt hz zR_0).mp z2
    omega
  have hcl : (zI (N : Int)).toNatClampNeg = N := by rw [zI_clamp hz]; simp
  have huniq : ∀ (cA : ClassId) (t0 : Nat) (cB : ClassId), (fx_ty g)[t0]? = some (cB, ty) → va_K D fx_cl (fx_ty g ++ [(cA, ty)]) s → (ty = .int ∨ ty = .boolean ∨ ty = .long) → cA = cB := by
    intro cA t0 cB h0 h9 ht
    have r1 := (hK.2 t0 (cB, ty) h0).2
    have r2 := (h9.2 (fx_ty g).length (cA, ty) (by simp)).2
    rcases ht with rfl | rfl | rfl <;> exact Option.some.inj (r2.symm.trans r1)
  rcases hkd with ⟨rfl, rfl⟩ | ⟨rfl, rfl⟩ | ⟨rfl, rfl⟩
  · refine va_newa hx hb (hts _ hw) hty hK hP.1 hP.2.1 hS hA (N' := N) (a0 := (N, .inl (fun _ => zI 0))) (fun cA => rfl) hneg hcl (by show N * 4 ≤ 536870912; omega) (Nat.le_trans hB.1 hRm.2.2.1) (Nat.le_trans hB.2 hRm.2.2.2) d (fun q cA H1 q0 q1 q2 q3 => ?_)
    obtain rfl := huniq cA 0 g.1 rfl q0 (Or.inl rfl)
    have hce : (q, (Sum.inl (g.1, N, .inl (fun _ => zI 0)) : va_E)) = (q, fx_ce g tb (fx_push h (q, .inr (0, N))) h.1.length (.inr (0, N))) := by
      simp only [fx_ce, fx_push, if_true]
    rw [hce] at q1 q2
    exact fy_grow hok hX hE hG hL rfl q1 q2 q3 (k q)
  · refine va_newa hx hb (hts _ hw) hty hK hP.1 hP.2.1 hS hA (N' := N) (a0 := (N, .inl (fun _ => zI 0))) (fun cA => rfl) hneg hcl (by show N * 1 ≤ 536870912; omega) (Nat.le_trans hB.1 hRm.2.2.1) (Nat.le_trans hB.2 hRm.2.2.2) d (fun q cA H1 q0 q1 q2 q3 => ?_)
    obtain rfl := huniq cA 1 g.2.1 rfl q0 (Or.inr (Or.inl rfl))
    have hce : (q, (Sum.inl (g.2.1, N, .inl (fun _ => zI 0)) : va_E)) = (q, fx_ce g tb (fx_push h (q, .inr (1, N))) h.1.length (.inr (1, N))) := by
      simp only [fx_ce, fx_push, if_true]
    rw [hce] at q1 q2
    exact fy_grow hok hX hE hG hL rfl q1 q2 q3 (k q)
  · refine va_newa hx hb (hts _ hw) hty hK hP.1 hP.2.1 hS hA (N' := N) (a0 := (N, .inr (.inl (fun _ => zL 0)))) (fun cA => rfl) hneg hcl (by show N * 8 ≤ 536870912; omega) (Nat.le_trans hB.1 hRm.2.2.1) (Nat.le_trans hB.2 hRm.2.2.2) d (fun q cA H1 q0 q1 q2 q3 => ?_)
    obtain rfl := huniq cA 2 g.2.2 rfl q0 (Or.inr (Or.inr rfl))
    have hce : (q, (Sum.inl (g.2.2, N, .inr (.inl (fun _ => zL 0))) : va_E)) = (q, fx_ce g tb (fx_push h (q, .inr (2, N))) h.1.length (.inr (2, N))) := by
      simp only [fx_ce, fx_push, if_true]
    rw [hce] at q1 q2
    exact fy_grow hok hX hE hG hL rfl q1 q2 q3 (k q)
theorem fy_callI {b0 : Nat} (d : decode M.2.1 pc = .ok (.invokespecial ix, 3)) (hc : fx_cI M M' ix np) (hnp : vs.length = np) (hst : vs.reverse ++ .ref b0 :: rest = st) (hB : c0 + B'.1 ≤ B.1 ∧ s0 + B'.2 ≤ B.2) (hw : (rest.map fun v => v.category).sum ≤ 8) (hlv : B'.1 = 0 ∨ (fx_okl h.1.length ls = true ∧ rest.all (fx_okr h.1.length) = true)) (hM : fx_Mt l M' B' (.ref b0 :: vs) h (fun v h2 => fx_U l M B Q c1 s1 n ls (v.toList ++ rest) h2)) (hn : pc + 3 = n := by rfl) (hc1 : c0 + B'.1 = c1 := by rfl) (hs1 : s0 + B'.2 = s1 := by rfl) : fx_U l M B Q c0 s0 pc ls st h := by
  subst hn; subst hst; subst hc1; subst hs1
  intro p e R s m args below meth c A D g tb S0 QQ hX hE H locs la hP hS hG hL
  obtain ⟨hx, hb, hml, hown, hts, hK, hA, hSt, hRm, hnm, hxw⟩ := id hX
  obtain ⟨hcB, hinst, hnm2, hret, hw2⟩ := hc
  have hpre := fx_pre (l := l) (Q := fun _ _ => True) (c0 := c0) (vs := .ref b0 :: vs) hX hP hS
  have hM2 := hM D g tb H.size
  have hstk : (vs.reverse ++ .ref b0 :: rest).map (fx_cv tb h.1) = (vs.map (fx_cv tb h.1)).reverse ++ .ref (fx_ad tb h.1 b0) :: rest.map (fx_cv tb h.1) := by
    rw [List.map_append, List.map_cons, List.map_reverse]; rfl
  rw [hstk]
  refine fy_core (ln := 3) (B' := B') (rest := rest) (a := (Value.ref (fx_ad tb h.1 b0) :: vs.map (fx_cv tb h.1)).toArray) hX hE hP hS hG hL hlv ?_ (fun v h2 hv => hv)
  rcases hw2 with hw2 | ⟨host, hw2⟩
  · exact va_runI (nL := M.2.2.1) (rest := rest.map (fx_cv tb h.1)) (As := vs.map (fx_cv tb h.1)) ⟨hx, hb, hml, hown, hts⟩ hM2 ⟨hret ▸ fx_cbk (B' := B') hcB hts (hts _ hw2) ⟨hRm.1, hRm.2.1⟩, hnm2, hts _ hinst⟩ hpre rfl (by rw [List.length_map]; exact hnp) hL.1 rfl (fx_w8 hw) d ⟨Nat.le_trans hB.1 hRm.2.2.1, Nat.le_trans hB.2 hRm.2.2.2⟩
  · exact va_runIN (nL := M.2.2.1) (rest := rest.map (fx_cv tb h.1)) (As := vs.map (fx_cv tb h.1)) ⟨hx, hb, hml, hown, hts⟩ hM2 ⟨hret ▸ fx_cnk (B' := B') hcB hts (hxw _ hw2) ⟨hRm.1, hRm.2.1⟩, hnm2, hts _ hinst⟩ hpre rfl (by rw [List.length_map]; exact hnp) hL.1 rfl (fx_w8 hw) d ⟨Nat.le_trans hB.1 hRm.2.2.1, Nat.le_trans hB.2 hRm.2.2.2⟩
theorem fy_pop {v : Value} (d : decode M.2.1 pc = .ok (.pop, 1)) (hv : v.category = 1) (k : fx_U l M B Q c0 s0 n ls (rest) h) (hn : pc + 1 = n := by rfl) : fx_U l M B Q c0 s0 pc ls (v :: rest) h := by
  subst hn
  intro p e R s m args below meth c A D g tb S0 QQ hX hE H locs la hP hS hG hL
  exact lv_pop hX.1 hX.2.1 d ((fx_cv_cat tb h.1 v).trans hv) (k p e R s m args below meth c A D g tb S0 QQ hX hE H locs la hP hS hG hL)
theorem fy_fewer (ls2 : List (Option Value)) (hs : fx_sub ls2 ls) (k : fx_U l M B Q c0 s0 pc ls2 st h) : fx_U l M B Q c0 s0 pc ls st h := by
  intro p e R s m args below meth c A D g tb S0 QQ hX hE H locs la hP hS hG hL
  exact k p e R s m args below meth c A D g tb S0 QQ hX hE H locs la hP hS hG ⟨hL.1, hL.2.1, fun i v hi => hL.2.2 i v (fx_sub_at ls2 ls hs i v hi)⟩
theorem fy_widen (hc : c0 ≤ c1) (hs : s0 ≤ s1) (k : fx_U l M B Q c1 s1 pc ls st h) : fx_U l M B Q c0 s0 pc ls st h := by
  intro p e R s m args below meth c A D g tb S0 QQ hX hE H locs la hP hS hG hL
  exact W.widen hc hs (k p e R s m args below meth c A D g tb S0 QQ hX hE H locs la hP hS ⟨hG.1, fun z => hG.2 (by omega)⟩ hL)
end FYS
