/-! rows that read and write the world -/
/-- what the tables say of the objects with number ci -/
def fx_Cl (ci : Nat) (C : String) (T : u_T) (N : Nat) (ty : Nat → FieldType) : Prop :=
  fx_cl[ci]? = some (C, T, N) ∧ (∀ w ∈ u_ws C T N, w ∈ fx_tb) ∧ (∀ k, k < N → parseFieldDescriptor (T k).2.2.1 = some (ty k)) ∧ (∀ a, a < N → ∀ b, b < N → a ≠ b → (T a).2.1 ≠ (T b).2.1) ∧ fx_nf ci = N ∧
  Cond.instantiable C N ∈ fx_tb ∧ Cond.initialized C ∈ fx_tb ∧ ∀ k, k < N → defaultValue (ty k) = bif fx_kd ci k then .null else .int 0
/-- pool entry ix of own is field k of the objects ci -/
def fx_lk (own : String) (ix ci k : Nat) (ty0 : FieldType) (fin nst : Bool) : Prop := ∃ (C : String) (T : u_T) (N : Nat) (ty : Nat → FieldType), fx_Cl ci C T N ty ∧ k < N ∧ ty k = ty0 ∧ (T k).2.2.2 = fin ∧ (fin = true → nst = false → (T k).1 = own) ∧
  (nst = false ∧ Cond.fieldLink own ix (T k).1 (T k).2.1 (T k).2.2.1 ∈ fx_tb ∨ nst = true ∧ ∃ host, Cond.fieldLinkNest own ix (T k).1 (T k).2.1 (T k).2.2.1 host ∈ fx_xw)
/-- pool entry ix of own is table k -/
def fx_ls (own : String) (ix k : Nat) : Prop := ∃ q, fx_tabs[k]? = some q ∧ (Cond.fieldLink own ix "FaxPages" q.1 "[I" ∈ fx_tb ∨ ∃ host, Cond.fieldLinkNest own ix "FaxPages" q.1 "[I" host ∈ fx_xw)
theorem fx_ws_uRs {g : ClassId × ClassId × ClassId} {tb : Nat → Nat} {h : fx_H} {p k a ci q : Nat} {rs : List (Option Nat)} (hq : h.1[p]? = some (a, .inl (ci, rs))) (hk : k < fx_nf ci) (hr : k < rs.length) (hi : fx_kd ci k = true) :
    (fx_ws g tb h).set p (a, .inr (ci, (fx_ob tb h.1 (h.2.1 p) ci rs).set k (.ref (fx_ad tb h.1 q)))) = fx_ws g tb (fx_uR h p (a, .inl (ci, rs.set k (some q)))) := fx_ws_uR (r := some q) hq hk hr hi
section FXH
variable {l : Launch} {M : fx_M} {B : Nat × Nat} {Q : Option Value → fx_H → Prop} {c0 s0 pc n : Nat} {ls ls2 : List (Option Value)} {st rest : List Value} {h : fx_H}
theorem fx_getI {p0 j ci a ix : Nat} {rs : List (Option Nat)} {ty0 : FieldType} {fin nst : Bool} (d : decode M.2.1 pc = .ok (.getfield ix, 3)) (hl : fx_lk M.1.cls ix ci j ty0 fin nst) (hq : h.1[p0]? = some (a, .inl (ci, rs))) (hi : fx_kd ci j = false) (k : fx_V l M B Q c0 s0 n ls (.int (zI (h.2.1 p0 j)) :: rest) h) (hn : pc + 3 = n := by rfl) : fx_V l M B Q c0 s0 pc ls (.ref p0 :: rest) h := by
  subst hn
  intro p e R s m args below meth c A D g tb S0 QQ hX hE H locs la hP hS hG hL
  obtain ⟨hx, hb, hml, hown, hts, hK, hA, hSt, hRm, hnm, hxw⟩ := id hX
  obtain ⟨C, T, N, ty, ⟨c1, c2, c3, c4, c5, -⟩, hk, -, -, -, hw⟩ := hl
  have he := fx_ws_at (g := g) (tb := tb) hq
  have hv : (fx_ob tb h.1 (h.2.1 p0) ci rs)[j]? = some (fx_cv tb h.1 (.int (zI (h.2.1 p0 j)))) := by
    rw [fx_ob_at _ _ _ _ _ (by rw [c5]; exact hk)]
    simp only [fx_fv, hi, cond_false, fx_cv]
  have k2 := (k p e R s m args below meth c A D g tb S0 QQ hX hE H locs la hP hS hG hL)
  have ha : fx_cv tb h.1 (.ref p0) = .ref a := by simp only [fx_cv, fx_ad_at hq]
  rw [List.map_cons] at k2 ⊢
  rw [ha]
  rcases hw with ⟨-, hw⟩ | ⟨hz, host, hw⟩
  · exact va_get (D := D) (ci := ci) (C := C) (T := T) (N := N) hx hb hts c2 hown hK hP.1 p0 he c1 j hk (hts _ hw) (fun _ h9 => h9) hv d k2
  · exact va_getN (D := D) (ci := ci) (C := C) (T := T) (N := N) hx hb hts c2 hown hK hP.1 p0 he c1 j hk (va_Nw.use rfl (hxw _ hw)) (fun _ h9 => h9) hv d k2
theorem fx_getR {p0 j ci a ix : Nat} {rs : List (Option Nat)} {ty0 : FieldType} {fin nst : Bool} {q : Nat} (d : decode M.2.1 pc = .ok (.getfield ix, 3)) (hl : fx_lk M.1.cls ix ci j ty0 fin nst) (hq : h.1[p0]? = some (a, .inl (ci, rs))) (hi : fx_kd ci j = true) (hr : rs.getD j none = some q) (k : fx_V l M B Q c0 s0 n ls (.ref q :: rest) h) (hn : pc + 3 = n := by rfl) : fx_V l M B Q c0 s0 pc ls (.ref p0 :: rest) h := by
  subst hn
  intro p e R s m args below meth c A D g tb S0 QQ hX hE H locs la hP hS hG hL
  obtain ⟨hx, hb, hml, hown, hts, hK, hA, hSt, hRm, hnm, hxw⟩ := id hX
  obtain ⟨C, T, N, ty, ⟨c1, c2, c3, c4, c5, -⟩, hk, -, -, -, hw⟩ := hl
  have he := fx_ws_at (g := g) (tb := tb) hq
  have hv : (fx_ob tb h.1 (h.2.1 p0) ci rs)[j]? = some (fx_cv tb h.1 (.ref q)) := by
    rw [fx_ob_at _ _ _ _ _ (by rw [c5]; exact hk)]
    simp only [fx_fv, hi, cond_true, hr, fx_cv]
  have k2 := (k p e R s m args below meth c A D g tb S0 QQ hX hE H locs la hP hS hG hL)
  have ha : fx_cv tb h.1 (.ref p0) = .ref a := by simp only [fx_cv, fx_ad_at hq]
  rw [List.map_cons] at k2 ⊢
  rw [ha]
  rcases hw with ⟨-, hw⟩ | ⟨hz, host, hw⟩
  · exact va_get (D := D) (ci := ci) (C := C) (T := T) (N := N) hx hb hts c2 hown hK hP.1 p0 he c1 j hk (hts _ hw) (fun _ h9 => h9) hv d k2
  · exact va_getN (D := D) (ci := ci) (C := C) (T := T) (N := N) hx hb hts c2 hown hK hP.1 p0 he c1 j hk (va_Nw.use rfl (hxw _ hw)) (fun _ h9 => h9) hv d k2
theorem fx_putI {p0 j ci a ix : Nat} {rs : List (Option Nat)} {ty0 : FieldType} {nst : Bool} {x : Int} (d : decode M.2.1 pc = .ok (.putfield ix, 3)) (hl : fx_lk M.1.cls ix ci j ty0 false nst) (hq : h.1[p0]? = some (a, .inl (ci, rs))) (hi : fx_kd ci j = false) (hna : narrow ty0 (.int (zI x)) = .int (zI x)) (hfi : fits ty0 (.int (zI x)) = true) (k : fx_V l M B Q c0 s0 n ls rest (fx_uF h p0 j x)) (hn : pc + 3 = n := by rfl) : fx_V l M B Q c0 s0 pc ls (.int (zI x) :: .ref p0 :: rest) h := by
  subst hn
  intro p e R s m args below meth c A D g tb S0 QQ hX hE H locs la hP hS hG hL
  obtain ⟨hx, hb, hml, hown, hts, hK, hA, hSt, hRm, hnm, hxw⟩ := id hX
  obtain ⟨C, T, N, ty, ⟨c1, c2, c3, c4, c5, -⟩, hk, hty, hfin, hown2, hw⟩ := hl
  have he := fx_ws_at (g := g) (tb := tb) hq
  have hlen : j < (fx_ob tb h.1 (h.2.1 p0) ci rs).length := by rw [fx_ob_len, c5]; exact hk
  have ha : fx_cv tb h.1 (.ref p0) = .ref a := by simp only [fx_cv, fx_ad_at hq]
  rw [List.map_cons, List.map_cons, ha]
  have kk : ∀ (H1 : Heap) (locs1 : List Loc), va_P D fx_cl ((fx_ws g tb h).set p0 (a, .inr (ci, (fx_ob tb h.1 (h.2.1 p0) ci rs).set j (.int (zI x))))) H1 → va_D A ((fx_ws g tb h).set p0 (a, .inr (ci, (fx_ob tb h.1 (h.2.1 p0) ci rs).set j (.int (zI x))))) → va_S A s.heap H1 locs1 → W p l e R s m args below meth c H1 locs1 c0 s0 QQ (F0 m (pc + 3) la (rest.map (fx_cv tb h.1))) := by
    intro H1 locs1 q1 q2 q3
    rw [fx_ws_uF hq (by rw [c5]; exact hk) hi] at q1 q2
    exact k p e R s m args below meth c A D g tb S0 QQ hX hE H1 locs1 la ⟨q1, q2, hP.2.2⟩ q3 hG hL
  rcases hw with ⟨-, hw⟩ | ⟨hz, host, hw⟩
  · exact va_put (D := D) (ty := ty0) (C := C) (T := T) (N := N) hx hb hts c2 ty c3 c4 hown hK hP.1 hP.2.1 hS p0 he c1 j hk (hts _ hw) (fun _ h9 => h9) hfin (by rw [c3 j hk, hty]) hna hfi hlen d kk
  · exact va_putN (D := D) (ty := ty0) (C := C) (T := T) (N := N) hx hb hts c2 ty c3 c4 hown hK hP.1 hP.2.1 hS p0 he c1 j hk (va_Nw.use rfl (hxw _ hw)) (fun _ h9 => h9) hfin (by rw [c3 j hk, hty]) hna hfi hlen d kk
theorem fx_putIF {p0 j ci a ix : Nat} {rs : List (Option Nat)} {ty0 : FieldType} {x : Int} (d : decode M.2.1 pc = .ok (.putfield ix, 3)) (hl : fx_lk M.1.cls ix ci j ty0 true false) (hq : h.1[p0]? = some (a, .inl (ci, rs))) (hi : fx_kd ci j = false) (hna : narrow ty0 (.int (zI x)) = .int (zI x)) (hfi : fits ty0 (.int (zI x)) = true) (hin : M.1.name = "<init>") (k : fx_V l M B Q c0 s0 n ls rest (fx_uF h p0 j x)) (hn : pc + 3 = n := by rfl) : fx_V l M B Q c0 s0 pc ls (.int (zI x) :: .ref p0 :: rest) h := by
  subst hn
  intro p e R s m args below meth c A D g tb S0 QQ hX hE H locs la hP hS hG hL
  obtain ⟨hx, hb, hml, hown, hts, hK, hA, hSt, hRm, hnm, hxw⟩ := id hX
  obtain ⟨C, T, N, ty, ⟨c1, c2, c3, c4, c5, -⟩, hk, hty, hfin, hown2, hw⟩ := hl
  have he := fx_ws_at (g := g) (tb := tb) hq
  have hlen : j < (fx_ob tb h.1 (h.2.1 p0) ci rs).length := by rw [fx_ob_len, c5]; exact hk
  have ha : fx_cv tb h.1 (.ref p0) = .ref a := by simp only [fx_cv, fx_ad_at hq]
  rw [List.map_cons, List.map_cons, ha]
  have kk : ∀ (H1 : Heap) (locs1 : List Loc), va_P D fx_cl ((fx_ws g tb h).set p0 (a, .inr (ci, (fx_ob tb h.1 (h.2.1 p0) ci rs).set j (.int (zI x))))) H1 → va_D A ((fx_ws g tb h).set p0 (a, .inr (ci, (fx_ob tb h.1 (h.2.1 p0) ci rs).set j (.int (zI x))))) → va_S A s.heap H1 locs1 → W p l e R s m args below meth c H1 locs1 c0 s0 QQ (F0 m (pc + 3) la (rest.map (fx_cv tb h.1))) := by
    intro H1 locs1 q1 q2 q3
    rw [fx_ws_uF hq (by rw [c5]; exact hk) hi] at q1 q2
    exact k p e R s m args below meth c A D g tb S0 QQ hX hE H1 locs1 la ⟨q1, q2, hP.2.2⟩ q3 hG hL
  rcases hw with ⟨-, hw⟩ | ⟨hz, host, hw⟩
  · exact va_putF (D := D) (ty := ty0) (C := C) (T := T) (N := N) hx hb hts c2 ty c3 c4 hown hK hP.1 hP.2.1 hS p0 he c1 j hk (hts _ hw) (fun _ h9 => h9) hfin (hnm.trans hin) (hown2 rfl rfl) (by rw [c3 j hk, hty]) hna hfi hlen d kk
  · cases hz
theorem fx_putR {p0 j ci a ix : Nat} {rs : List (Option Nat)} {ty0 : FieldType} {nst : Bool} {q : Nat} (d : decode M.2.1 pc = .ok (.putfield ix, 3)) (hl : fx_lk M.1.cls ix ci j ty0 false nst) (hq : h.1[p0]? = some (a, .inl (ci, rs))) (hi : fx_kd ci j = true) (hr : j < rs.length) (hob : (∃ o, ty0 = .object o) ∨ ∃ o, ty0 = .array o) (k : fx_V l M B Q c0 s0 n ls rest (fx_uR h p0 (a, .inl (ci, rs.set j (some q))))) (hn : pc + 3 = n := by rfl) : fx_V l M B Q c0 s0 pc ls (.ref q :: .ref p0 :: rest) h := by
  subst hn
  intro p e R s m args below meth c A D g tb S0 QQ hX hE H locs la hP hS hG hL
  obtain ⟨hx, hb, hml, hown, hts, hK, hA, hSt, hRm, hnm, hxw⟩ := id hX
  obtain ⟨C, T, N, ty, ⟨c1, c2, c3, c4, c5, -⟩, hk, hty, hfin, hown2, hw⟩ := hl
  have he := fx_ws_at (g := g) (tb := tb) hq
  have hlen : j < (fx_ob tb h.1 (h.2.1 p0) ci rs).length := by rw [fx_ob_len, c5]; exact hk
  have ha : fx_cv tb h.1 (.ref p0) = .ref a := by simp only [fx_cv, fx_ad_at hq]
  rw [List.map_cons, List.map_cons, ha]
  have kk : ∀ (H1 : Heap) (locs1 : List Loc), va_P D fx_cl ((fx_ws g tb h).set p0 (a, .inr (ci, (fx_ob tb h.1 (h.2.1 p0) ci rs).set j (.ref (fx_ad tb h.1 q))))) H1 → va_D A ((fx_ws g tb h).set p0 (a, .inr (ci, (fx_ob tb h.1 (h.2.1 p0) ci rs).set j (.ref (fx_ad tb h.1 q))))) → va_S A s.heap H1 locs1 → W p l e R s m args below meth c H1 locs1 c0 s0 QQ (F0 m (pc + 3) la (rest.map (fx_cv tb h.1))) := by
    intro H1 locs1 q1 q2 q3
    rw [fx_ws_uRs hq (by rw [c5]; exact hk) hr hi] at q1 q2
    have hc := fx_cv_fst tb (fx_map_set (sh' := .inl (ci, rs.set j (some q))) hq)
    have k2 := k p e R s m args below meth c A D g tb S0 QQ hX hE H1 locs1 la ⟨q1, q2, by show (h.1.set p0 _).length < 1000; rw [List.length_set]; exact hP.2.2⟩ q3 (fx_g_set hG hq) (by show fx_L (fx_cv tb (h.1.set p0 _)) la M.2.2.1 ls; rw [hc]; exact hL)
    have k3 : W p l e R s m args below meth c H1 locs1 c0 s0 QQ (F0 m (pc + 3) la (rest.map (fx_cv tb (h.1.set p0 (a, .inl (ci, rs.set j (some q))))))) := k2
    rw [hc] at k3
    exact k3
  rcases hw with ⟨-, hw⟩ | ⟨hz, host, hw⟩
  · exact va_put (D := D) (ty := ty0) (C := C) (T := T) (N := N) hx hb hts c2 ty c3 c4 hown hK hP.1 hP.2.1 hS p0 he c1 j hk (hts _ hw) (fun _ h9 => h9) hfin (by rw [c3 j hk, hty]) (by rcases hob with ⟨o, rfl⟩ | ⟨o, rfl⟩ <;> rfl) (by rcases hob with ⟨o, rfl⟩ | ⟨o, rfl⟩ <;> rfl) hlen d kk
  · exact va_putN (D := D) (ty := ty0) (C := C) (T := T) (N := N) hx hb hts c2 ty c3 c4 hown hK hP.1 hP.2.1 hS p0 he c1 j hk (va_Nw.use rfl (hxw _ hw)) (fun _ h9 => h9) hfin (by rw [c3 j hk, hty]) (by rcases hob with ⟨o, rfl⟩ | ⟨o, rfl⟩ <;> rfl) (by rcases hob with ⟨o, rfl⟩ | ⟨o, rfl⟩ <;> rfl) hlen d kk
theorem fx_putRF {p0 j ci a ix : Nat} {rs : List (Option Nat)} {ty0 : FieldType} {q : Nat} (d : decode M.2.1 pc = .ok (.putfield ix, 3)) (hl : fx_lk M.1.cls ix ci j ty0 true false) (hq : h.1[p0]? = some (a, .inl (ci, rs))) (hi : fx_kd ci j = true) (hr : j < rs.length) (hob : (∃ o, ty0 = .object o) ∨ ∃ o, ty0 = .array o) (hin : M.1.name = "<init>") (k : fx_V l M B Q c0 s0 n ls rest (fx_uR h p0 (a, .inl (ci, rs.set j (some q))))) (hn : pc + 3 = n := by rfl) : fx_V l M B Q c0 s0 pc ls (.ref q :: .ref p0 :: rest) h := by
  subst hn
  intro p e R s m args below meth c A D g tb S0 QQ hX hE H locs la hP hS hG hL
  obtain ⟨hx, hb, hml, hown, hts, hK, hA, hSt, hRm, hnm, hxw⟩ := id hX
  obtain ⟨C, T, N, ty, ⟨c1, c2, c3, c4, c5, -⟩, hk, hty, hfin, hown2, hw⟩ := hl
  have he := fx_ws_at (g := g) (tb := tb) hq
  have hlen : j < (fx_ob tb h.1 (h.2.1 p0) ci rs).length := by rw [fx_ob_len, c5]; exact hk
  have ha : fx_cv tb h.1 (.ref p0) = .ref a := by simp only [fx_cv, fx_ad_at hq]
  rw [List.map_cons, List.map_cons, ha]
  have kk : ∀ (H1 : Heap) (locs1 : List Loc), va_P D fx_cl ((fx_ws g tb h).set p0 (a, .inr (ci, (fx_ob tb h.1 (h.2.1 p0) ci rs).set j (.ref (fx_ad tb h.1 q))))) H1 → va_D A ((fx_ws g tb h).set p0 (a, .inr (ci, (fx_ob tb h.1 (h.2.1 p0) ci rs).set j (.ref (fx_ad tb h.1 q))))) → va_S A s.heap H1 locs1 → W p l e R s m args below meth c H1 locs1 c0 s0 QQ (F0 m (pc + 3) la (rest.map (fx_cv tb h.1))) := by
    intro H1 locs1 q1 q2 q3
    rw [fx_ws_uRs hq (by rw [c5]; exact hk) hr hi] at q1 q2
    have hc := fx_cv_fst tb (fx_map_set (sh' := .inl (ci, rs.set j (some q))) hq)
    have k2 := k p e R s m args below meth c A D g tb S0 QQ hX hE H1 locs1 la ⟨q1, q2, by show (h.1.set p0 _).length < 1000; rw [List.length_set]; exact hP.2.2⟩ q3 (fx_g_set hG hq) (by show fx_L (fx_cv tb (h.1.set p0 _)) la M.2.2.1 ls; rw [hc]; exact hL)
    have k3 : W p l e R s m args below meth c H1 locs1 c0 s0 QQ (F0 m (pc + 3) la (rest.map (fx_cv tb (h.1.set p0 (a, .inl (ci, rs.set j (some q))))))) := k2
    rw [hc] at k3
    exact k3
  rcases hw with ⟨-, hw⟩ | ⟨hz, host, hw⟩
  · exact va_putF (D := D) (ty := ty0) (C := C) (T := T) (N := N) hx hb hts c2 ty c3 c4 hown hK hP.1 hP.2.1 hS p0 he c1 j hk (hts _ hw) (fun _ h9 => h9) hfin (hnm.trans hin) (hown2 rfl rfl) (by rw [c3 j hk, hty]) (by rcases hob with ⟨o, rfl⟩ | ⟨o, rfl⟩ <;> rfl) (by rcases hob with ⟨o, rfl⟩ | ⟨o, rfl⟩ <;> rfl) hlen d kk
  · cases hz
theorem fx_iald {p0 a n0 : Nat} {i : Int} (d : decode M.2.1 pc = .ok (.iaload, 1)) (hq : h.1[p0]? = some (a, .inr (0, n0))) (h0 : 0 ≤ i) (hi : i < n0) (hb0 : n0 < 2147483648) (k : fx_V l M B Q c0 s0 n ls (.int (zI (h.2.2.1 p0 i.toNat)) :: rest) h) (hn : pc + 1 = n := by rfl) : fx_V l M B Q c0 s0 pc ls (.int (zI i) :: .ref p0 :: rest) h := by
  subst hn
  intro p e R s m args below meth c A D g tb S0 QQ hX hE H locs la hP hS hG hL
  obtain ⟨hx, hb, hml, hown, hts, hK, hA, hSt, hRm, hnm, hxw⟩ := id hX
  have he := fx_ws_at (g := g) (tb := tb) hq
  have ha : fx_cv tb h.1 (.ref p0) = .ref a := by simp only [fx_cv, fx_ad_at hq]
  rw [List.map_cons, List.map_cons, ha]
  have hcl : (zI i).toNatClampNeg = i.toNat := zI_clamp ⟨by omega, by omega⟩
  have k2 := (k p e R s m args below meth c A D g tb S0 QQ hX hE H locs la hP hS hG hL)
  rw [← hcl] at k2
  exact va_iald hx hb hK hP.1 p0 0 he rfl (zI_in h0 hi hb0) d k2
theorem fx_zald {p0 a n0 : Nat} {i : Int} (d : decode M.2.1 pc = .ok (.baload, 1)) (hq : h.1[p0]? = some (a, .inr (1, n0))) (h0 : 0 ≤ i) (hi : i < n0) (hb0 : n0 < 2147483648) (k : fx_V l M B Q c0 s0 n ls (.int (zI (h.2.2.1 p0 i.toNat)) :: rest) h) (hn : pc + 1 = n := by rfl) : fx_V l M B Q c0 s0 pc ls (.int (zI i) :: .ref p0 :: rest) h := by
  subst hn
  intro p e R s m args below meth c A D g tb S0 QQ hX hE H locs la hP hS hG hL
  obtain ⟨hx, hb, hml, hown, hts, hK, hA, hSt, hRm, hnm, hxw⟩ := id hX
  have he := fx_ws_at (g := g) (tb := tb) hq
  have ha : fx_cv tb h.1 (.ref p0) = .ref a := by simp only [fx_cv, fx_ad_at hq]
  rw [List.map_cons, List.map_cons, ha]
  have hcl : (zI i).toNatClampNeg = i.toNat := zI_clamp ⟨by omega, by omega⟩
  have k2 := (k p e R s m args below meth c A D g tb S0 QQ hX hE H locs la hP hS hG hL)
  rw [← hcl] at k2
  exact va_zald hx hb hK hP.1 p0 1 he rfl (zI_in h0 hi hb0) d k2
theorem fx_lald {p0 a n0 : Nat} {i : Int} (d : decode M.2.1 pc = .ok (.laload, 1)) (hq : h.1[p0]? = some (a, .inr (2, n0))) (h0 : 0 ≤ i) (hi : i < n0) (hb0 : n0 < 2147483648) (k : fx_V l M B Q c0 s0 n ls (.long (zL (h.2.2.2 p0 i.toNat)) :: rest) h) (hn : pc + 1 = n := by rfl) : fx_V l M B Q c0 s0 pc ls (.int (zI i) :: .ref p0 :: rest) h := by
  subst hn
  intro p e R s m args below meth c A D g tb S0 QQ hX hE H locs la hP hS hG hL
  obtain ⟨hx, hb, hml, hown, hts, hK, hA, hSt, hRm, hnm, hxw⟩ := id hX
  have he := fx_ws_at (g := g) (tb := tb) hq
  have ha : fx_cv tb h.1 (.ref p0) = .ref a := by simp only [fx_cv, fx_ad_at hq]
  rw [List.map_cons, List.map_cons, ha]
  have hcl : (zI i).toNatClampNeg = i.toNat := zI_clamp ⟨by omega, by omega⟩
  have k2 := (k p e R s m args below meth c A D g tb S0 QQ hX hE H locs la hP hS hG hL)
  rw [← hcl] at k2
  exact va_lald hx hb hK hP.1 p0 2 he rfl (zI_in h0 hi hb0) d k2
theorem fx_iast {p0 a n0 : Nat} {i : Int} {x : Int} (d : decode M.2.1 pc = .ok (.iastore, 1)) (hq : h.1[p0]? = some (a, .inr (0, n0))) (h0 : 0 ≤ i) (hi : i < n0) (hb0 : n0 < 2147483648) (k : fx_V l M B Q c0 s0 n ls rest (fx_uA h p0 i.toNat x)) (hn : pc + 1 = n := by rfl) : fx_V l M B Q c0 s0 pc ls (.int (zI x) :: .int (zI i) :: .ref p0 :: rest) h := by
  subst hn
  intro p e R s m args below meth c A D g tb S0 QQ hX hE H locs la hP hS hG hL
  obtain ⟨hx, hb, hml, hown, hts, hK, hA, hSt, hRm, hnm, hxw⟩ := id hX
  have he := fx_ws_at (g := g) (tb := tb) hq
  have ha : fx_cv tb h.1 (.ref p0) = .ref a := by simp only [fx_cv, fx_ad_at hq]
  rw [List.map_cons, List.map_cons, List.map_cons, ha]
  have hcl : (zI i).toNatClampNeg = i.toNat := zI_clamp ⟨by omega, by omega⟩
  exact va_iast hx hb hK hP.1 hP.2.1 hS p0 0 he rfl (zI_in h0 hi hb0) d (fun H1 locs1 q1 q2 q3 => by
    rw [hcl, fx_ws_uA hq (Or.inl ⟨rfl, rfl⟩)] at q1 q2
    exact k p e R s m args below meth c A D g tb S0 QQ hX hE H1 locs1 la ⟨q1, q2, hP.2.2⟩ q3 hG hL)
theorem fx_zast {p0 a n0 : Nat} {i : Int} {x : Int} (d : decode M.2.1 pc = .ok (.bastore, 1)) (hq : h.1[p0]? = some (a, .inr (1, n0))) (h0 : 0 ≤ i) (hi : i < n0) (hx01 : x = 0 ∨ x = 1) (hb0 : n0 < 2147483648) (k : fx_V l M B Q c0 s0 n ls rest (fx_uA h p0 i.toNat x)) (hn : pc + 1 = n := by rfl) : fx_V l M B Q c0 s0 pc ls (.int (zI x) :: .int (zI i) :: .ref p0 :: rest) h := by
  subst hn
  intro p e R s m args below meth c A D g tb S0 QQ hX hE H locs la hP hS hG hL
  obtain ⟨hx, hb, hml, hown, hts, hK, hA, hSt, hRm, hnm, hxw⟩ := id hX
  have he := fx_ws_at (g := g) (tb := tb) hq
  have ha : fx_cv tb h.1 (.ref p0) = .ref a := by simp only [fx_cv, fx_ad_at hq]
  rw [List.map_cons, List.map_cons, List.map_cons, ha]
  have hcl : (zI i).toNatClampNeg = i.toNat := zI_clamp ⟨by omega, by omega⟩
  have hnar : vp_nar .boolean (zI x) = zI x := by rcases hx01 with rfl | rfl <;> rfl
  exact va_zast hx hb hK hP.1 hP.2.1 hS p0 1 he rfl (zI_in h0 hi hb0) d (fun H1 locs1 q1 q2 q3 => by
    rw [hcl, hnar, fx_ws_uA hq (Or.inr ⟨rfl, rfl⟩)] at q1 q2
    exact k p e R s m args below meth c A D g tb S0 QQ hX hE H1 locs1 la ⟨q1, q2, hP.2.2⟩ q3 hG hL)
theorem fx_last {p0 a n0 : Nat} {i : Int} {x : Int} (d : decode M.2.1 pc = .ok (.lastore, 1)) (hq : h.1[p0]? = some (a, .inr (2, n0))) (h0 : 0 ≤ i) (hi : i < n0) (hb0 : n0 < 2147483648) (k : fx_V l M B Q c0 s0 n ls rest (fx_uL h p0 i.toNat x)) (hn : pc + 1 = n := by rfl) : fx_V l M B Q c0 s0 pc ls (.long (zL x) :: .int (zI i) :: .ref p0 :: rest) h := by
  subst hn
  intro p e R s m args below meth c A D g tb S0 QQ hX hE H locs la hP hS hG hL
  obtain ⟨hx, hb, hml, hown, hts, hK, hA, hSt, hRm, hnm, hxw⟩ := id hX
  have he := fx_ws_at (g := g) (tb := tb) hq
  have ha : fx_cv tb h.1 (.ref p0) = .ref a := by simp only [fx_cv, fx_ad_at hq]
  rw [List.map_cons, List.map_cons, List.map_cons, ha]
  have hcl : (zI i).toNatClampNeg = i.toNat := zI_clamp ⟨by omega, by omega⟩
  exact va_last hx hb hK hP.1 hP.2.1 hS p0 2 he rfl (zI_in h0 hi hb0) d (fun H1 locs1 q1 q2 q3 => by
    rw [hcl, fx_ws_uL hq] at q1 q2
    exact k p e R s m args below meth c A D g tb S0 QQ hX hE H1 locs1 la ⟨q1, q2, hP.2.2⟩ q3 hG hL)
theorem fx_ofNat (n0 : Nat) : zI (n0 : Int) = Int32.ofNat n0 := Int32.ofInt_eq_ofNat
theorem fx_alen {p0 a kd n0 : Nat} {v : Int} (d : decode M.2.1 pc = .ok (.arraylength, 1)) (hq : h.1[p0]? = some (a, .inr (kd, n0))) (hv : (n0 : Int) = v) (k : fx_V l M B Q c0 s0 n ls (.int (zI v) :: rest) h) (hn : pc + 1 = n := by rfl) : fx_V l M B Q c0 s0 pc ls (.ref p0 :: rest) h := by
  subst hn
  subst hv
  intro p e R s m args below meth c A D g tb S0 QQ hX hE H locs la hP hS hG hL
  obtain ⟨hx, hb, hml, hown, hts, hK, hA, hSt, hRm, hnm, hxw⟩ := id hX
  have he := fx_ws_at (g := g) (tb := tb) hq
  have ha : fx_cv tb h.1 (.ref p0) = .ref a := by simp only [fx_cv, fx_ad_at hq]
  rw [List.map_cons, ha]
  have k2 := (k p e R s m args below meth c A D g tb S0 QQ hX hE H locs la hP hS hG hL)
  rw [fx_ofNat] at k2
  match kd, he with
  | 0, he => exact va_alen hx hb hK hP.1 p0 0 he (ty := .int) rfl rfl d k2
  | 1, he => exact va_alen hx hb hK hP.1 p0 1 he (ty := .boolean) rfl rfl d k2
  | _ + 2, he => exact va_alen hx hb hK hP.1 p0 2 he (ty := .long) rfl rfl d k2
theorem fx_tb_ad {D : va_G} {g : ClassId × ClassId × ClassId} {tb : Nat → Nat} {A : Nat → Prop} {h : fx_H} {H : Heap} (hP : fx_P D g tb A h H) (k : Nat) : fx_cv tb h.1 (.ref (1000 + k)) = .ref (tb (1000 + k)) := by
  have hl := hP.2.2
  have : h.1[1000 + k]? = none := List.getElem?_eq_none (by omega)
  simp only [fx_cv, fx_ad, this]
theorem fx_tald {k0 n0 : Nat} {nm : String} {f : Nat → Int} {i : Int} (d : decode M.2.1 pc = .ok (.iaload, 1)) (hq : fx_tabs[k0]? = some (nm, n0, f)) (h0 : 0 ≤ i) (hi : i < n0) (hb0 : n0 < 2147483648) (k : fx_V l M B Q c0 s0 n ls (.int (zI (f i.toNat)) :: rest) h) (hn : pc + 1 = n := by rfl) : fx_V l M B Q c0 s0 pc ls (.int (zI i) :: .ref (1000 + k0) :: rest) h := by
  subst hn
  intro p e R s m args below meth c A D g tb S0 QQ hX hE H locs la hP hS hG hL
  obtain ⟨hx, hb, hml, hown, hts, hK, hA, hSt, hRm, hnm, hxw⟩ := id hX
  rw [List.map_cons, List.map_cons, fx_tb_ad hP]
  have hcl : (zI i).toNatClampNeg = i.toNat := zI_clamp ⟨by omega, by omega⟩
  have k2 := (k p e R s m args below meth c A D g tb S0 QQ hX hE H locs la hP hS hG hL)
  rw [← hcl] at k2
  exact va_ti hx hb (hSt.1 k0 _ hq).2 hS (zI_in h0 hi hb0) rfl d k2
theorem fx_tlen {k0 n0 : Nat} {nm : String} {f : Nat → Int} {v : Int} (d : decode M.2.1 pc = .ok (.arraylength, 1)) (hq : fx_tabs[k0]? = some (nm, n0, f)) (hv : (n0 : Int) = v) (k : fx_V l M B Q c0 s0 n ls (.int (zI v) :: rest) h) (hn : pc + 1 = n := by rfl) : fx_V l M B Q c0 s0 pc ls (.ref (1000 + k0) :: rest) h := by
  subst hn
  subst hv
  intro p e R s m args below meth c A D g tb S0 QQ hX hE H locs la hP hS hG hL
  obtain ⟨hx, hb, hml, hown, hts, hK, hA, hSt, hRm, hnm, hxw⟩ := id hX
  rw [List.map_cons, fx_tb_ad hP]
  have k2 := (k p e R s m args below meth c A D g tb S0 QQ hX hE H locs la hP hS hG hL)
  rw [fx_ofNat] at k2
  exact va_tlen hx hb (hSt.1 k0 _ hq).2 hS rfl d k2
theorem fx_gets {k0 ix : Nat} (d : decode M.2.1 pc = .ok (.getstatic ix, 3)) (hl : fx_ls M.1.cls ix k0) (k : fx_V l M B Q c0 s0 n ls (.ref (1000 + k0) :: rest) h) (hn : pc + 3 = n := by rfl) : fx_V l M B Q c0 s0 pc ls rest h := by
  subst hn
  intro p e R s m args below meth c A D g tb S0 QQ hX hE H locs la hP hS hG hL
  obtain ⟨hx, hb, hml, hown, hts, hK, hA, hSt, hRm, hnm, hxw⟩ := id hX
  obtain ⟨q, hq, hw⟩ := hl
  have k2 := (k p e R s m args below meth c A D g tb S0 QQ hX hE H locs la hP hS hG hL)
  rw [List.map_cons, fx_tb_ad hP] at k2
  rcases hw with hw | ⟨host, hw⟩
  · exact va_gets hx hb (hSt.1 k0 _ hq).1 hS hown (hts _ hw) (fun _ h9 => h9) d k2
  · exact va_getsN hx hb (hSt.1 k0 _ hq).1 hS hown (va_Nw.use rfl (hxw _ hw)) (fun _ h9 => h9) d k2
end FXH
