/-! contracts and calls -/
/-- what a contract takes for granted of the state -/
def fx_In (D : va_G) (g : ClassId × ClassId × ClassId) (tb : Nat → Nat) (h : fx_H) (sz : Nat) (U : State) : Prop :=
  U.heap.size = sz ∧ va_P D fx_cl (fx_ws g tb h) U.heap ∧ va_K D fx_cl (fx_ty g) U ∧ va_D (fun _ => True) (fx_ws g tb h) ∧ h.1.length < 1000 ∧ fx_St tb (va_A (fx_ws g tb h) sz) U U.heap ∧ ∀ w ∈ fx_xw, va_Nw w U
def fx_Qc (D : va_G) (g : ClassId × ClassId × ClassId) (tb : Nat → Nat) (h : fx_H) (sz : Nat) (B : Nat × Nat) (Q : Option Value → fx_H → Prop) : Array Value → State → Outcome → State → Prop := fun _ st o t =>
  (∃ (v : Option Value) (h2 : fx_H), o = .returned (v.map (fx_cv tb h2.1)) ∧ Q v h2 ∧ va_P D fx_cl (fx_ws g tb h2) t.heap ∧ va_D (va_A (fx_ws g tb h) sz) (fx_ws g tb h2) ∧ h2.1.length < 1000 ∧ fx_g h.1 B.1 h2.1) ∧ va_F (va_A (fx_ws g tb h) sz) st t
abbrev fx_wd (M : fx_M) : List Cond := Cond.code M.1 M.2.1 M.2.2.1 M.2.2.2.1 :: fx_tb
def fx_Mt (l : Launch) (M : fx_M) (B : Nat × Nat) (vs : List Value) (h : fx_H) (Q : Option Value → fx_H → Prop) : Prop :=
  ∀ (D : va_G) (g : ClassId × ClassId × ClassId) (tb : Nat → Nat) (sz : Nat), Met l M.1 (fx_wd M) (fx_rm M B) (va_Pc (vs.map (fx_cv tb h.1)) (fx_In D g tb h sz)) (fx_Qc D g tb h sz B Q) B.1 B.2 (va_A (fx_ws g tb h) sz)
/-- the locals at the entry -/
def fx_en (vs : List Value) (nL : Nat) : List (Option Value) :=
  (vs.flatMap fun v => if v.category = 2 then [some v, none] else [some v]) ++ List.replicate (nL - (lg_sl vs).length) none
theorem fx_en_at {cv : Value → Value} (hcv : ∀ v : Value, (cv v).category = v.category) : ∀ (vs : List Value) (k r i : Nat) (v : Value), ((vs.flatMap fun v => if v.category = 2 then [some v, none] else [some v]) ++ List.replicate r none)[i]? = some (some v) → (k + i, cv v) ∈ lv_args k (vs.map cv)
  | [], k, r, i, v, h => by
    simp only [List.flatMap_nil, List.nil_append] at h
    rw [List.getElem?_replicate] at h
    split at h <;> cases h
  | w :: t, k, r, i, v, h => by
    simp only [List.flatMap_cons, List.map_cons, lv_args, hcv] at h ⊢
    by_cases hc : w.category = 2
    · simp only [hc, if_true] at h ⊢
      match i, h with
      | 0, h =>
        simp at h
        subst h
        exact List.mem_cons_self
      | 1, h => simp at h
      | i + 2, h =>
        have h2 : ((t.flatMap fun v => if v.category = 2 then [some v, none] else [some v]) ++ List.replicate r none)[i]? = some (some v) := by simpa using h
        have := fx_en_at hcv t (k + 2) r i v h2
        refine List.mem_cons_of_mem _ ?_
        have e : k + (i + 2) = k + 2 + i := by omega
        rw [e]
        exact this
    · simp only [hc, if_false] at h ⊢
      match i, h with
      | 0, h =>
        simp at h
        subst h
        exact List.mem_cons_self
      | i + 1, h =>
        have h2 : ((t.flatMap fun v => if v.category = 2 then [some v, none] else [some v]) ++ List.replicate r none)[i]? = some (some v) := by simpa using h
        have := fx_en_at hcv t (k + 1) r i v h2
        refine List.mem_cons_of_mem _ ?_
        have e : k + (i + 1) = k + 1 + i := by omega
        rw [e]
        exact this
theorem fx_sl_len (cv : Value → Value) (hcv : ∀ v : Value, (cv v).category = v.category) (vs : List Value) : (lg_sl (vs.map cv)).length = (lg_sl vs).length := by
  induction vs with
  | nil => rfl
  | cons v t ih =>
    simp only [lg_sl, List.map_cons, List.flatMap_cons, List.length_append, hcv] at ih ⊢
    rw [ih]
    split <;> rfl
/-- a walk from the entry is a contract -/
theorem fx_entry {l : Launch} {M : fx_M} {B : Nat × Nat} {vs : List Value} {h : fx_H} {Q : Option Value → fx_H → Prop} {ls : List (Option Value)} (hy : plainName M.1.cls = true) (hn : (lg_sl vs).length ≤ M.2.2.1) (hls : fx_en vs M.2.2.1 = ls) (k : fx_V l M B Q 0 0 0 ls [] h) : fx_Mt l M B vs h Q := by
  intro D g tb sz
  refine Met.ofW (cc := M.2.1) (maxL := M.2.2.1) (ret := M.2.2.2.1) hy rfl ?_
  intro p e s m args below meth c s₁ Bd hml hv
  obtain ⟨rfl, hsz, hP, hK, hD0, hlen, hSt, hxw⟩ := hv
  subst hsz
  have hts := atoms_spec (ws := fx_wd M) Bd.pre
  have hown : s.vm.findClass M.1.cls = some m.cls := findClass_of_methodNamed Bd.named
  have hlocks := Bd.notSynchronized
  have hD := hD0.self (sz := s.heap.size)
  have hA : ∀ q : Nat, s.heap.size ≤ q → va_A (fx_ws g tb h) s.heap.size q := fun q h => Or.inr h
  have hl := lv_entry (vs.map (fx_cv tb h.1)) (n := M.2.2.1) (by rw [fx_sl_len _ (fx_cv_cat tb h.1)]; exact hn)
  rw [lg_entry_eq]
  refine k p e _ s m _ below meth c (va_A (fx_ws g tb h) s.heap.size) D g tb h.1 _ ⟨Bd.exec, Bd.bytes, hml, hown, fun w hw => hts w (List.mem_cons_of_mem _ hw), hK, hA, hSt, ⟨Nat.le_refl _, Nat.le_refl _, Nat.le_refl _, Nat.le_refl _⟩, (name_of_methodNamed Bd.named Bd.method).1, hxw⟩ ?_ s.heap [] _ ⟨hP, hD, hlen⟩ va_S.rf (fx_g_rf _) ?_
  · intro v h2 H locs c0 s0 pc la hQ hP2 hS hG hc hs hr
    refine W.widen hc hs ?_
    have hq : ∀ (t : State) (o : Outcome), t.heap = H → o = .returned (v.map (fx_cv tb h2.1)) → fx_Qc D g tb h s.heap.size B Q (vs.map (fx_cv tb h.1)).toArray s o t := by
      intro t o ht ho
      refine ⟨⟨v, h2, ho, hQ, by rw [ht]; exact hP2.1, hP2.2.1, hP2.2.2, hG.1, fun z => hG.2 (by omega)⟩, hS.F ht⟩
    have hrt := Bd.returns
    match v, hr, hq with
    | none, hr, hq => exact W.vret Bd.exec Bd.bytes (hrt.trans hr.1) (fun t ht hW => hq t _ ht rfl) hS.2.2 hr.2
    | some (.int x), hr, hq =>
      obtain ⟨⟨ty, h1, h2⟩, hd⟩ := hr
      exact W.zret Bd.exec Bd.bytes (hrt.trans h1) h2 (fun t ht hW => hq t _ ht rfl) hS.2.2 hd
    | some (.long x), hr, hq => exact W.lret Bd.exec Bd.bytes (hrt.trans hr.1) (fun t ht hW => hq t _ ht rfl) hS.2.2 hr.2
    | some (.ref x), hr, hq =>
      obtain ⟨⟨rt, h1, h2⟩, hd⟩ := hr
      exact W.aret Bd.exec Bd.bytes (hrt.trans h1) h2 (Or.inr ⟨_, rfl⟩) (fun t ht hW => hq t _ ht rfl) hS.2.2 hd
  · subst hls
    refine fx_has_L hl fun i v hi => ?_
    have := fx_en_at (fx_cv_cat tb h.1) vs 0 _ i v hi
    simpa using this
/-- a call, and what it says of the tables; ln: the instruction's length -/
def fx_Run (ln : Nat) (p : Program) (l : Launch) (e : Env) (R : Room) (s : State) (m : MethodId) (args : Array Value) (below : List Frame) (meth : Method) (c : Code) (H : Heap) (locs : List Loc) (cells slots mc ms : Nat) (g : JFrame) (rest : List Value) (Qa : State → Outcome → State → Prop) (free : Addr → Prop) : Prop :=
  ∀ T : State, T.heap = H → Stand p l e R s m args below meth c T locs cells slots → ∃ (v : Option Value) (st₀ t T' : State) (L : List Loc), st₀.heap = H ∧ Stand p l e R s m args below meth c T' (locs ++ L) (cells + mc) (slots + ms) ∧ (∀ q ∈ L, free q.base) ∧ T'.heap = t.heap ∧ T'.vm = t.vm ∧ Qa st₀ (.returned v) t ∧
    Goes p e below T g T' { g with pc := g.pc + ln, stack := v.toList ++ rest }
/-- references that stand in a world of n places, or in the tables -/
def fx_okr (n : Nat) : Value → Bool
  | .ref q => decide (q < n) || decide (1000 ≤ q)
  | _ => true
def fx_okl (n : Nat) (ls : List (Option Value)) : Bool := ls.all fun o => match o with
  | some v => fx_okr n v
  | none => true
theorem fx_ad_pre {S0 S : fx_S} {c0 : Nat} (tb : Nat → Nat) (hG : fx_g S0 c0 S) (hl : S.length < 1000) {n : Nat} (hn : c0 = 0 ∨ n < S0.length ∨ 1000 ≤ n) : fx_ad tb S n = fx_ad tb S0 n := by
  rcases hn with h0 | hn | hn
  · exact fx_ad_fst tb (hG.2 h0) n
  · obtain ⟨⟨T, hT⟩, -⟩ := hG
    have h := congrArg (fun l : List Nat => l[n]?) hT
    rw [List.getElem?_append_left (by simpa using hn), List.getElem?_map, List.getElem?_map] at h
    obtain ⟨q, hq⟩ : ∃ q, S0[n]? = some q := ⟨S0[n], List.getElem?_eq_getElem hn⟩
    rw [hq] at h
    cases h2 : S[n]? with
    | none => rw [h2] at h; cases h
    | some q2 =>
      rw [h2] at h
      simp only [fx_ad, hq, h2]
      exact Option.some.inj h
  · have hl0 : S0.length ≤ S.length := by
      obtain ⟨⟨T, hT⟩, -⟩ := hG
      have := congrArg List.length hT
      simp at this
      omega
    have h1 : S[n]? = none := List.getElem?_eq_none (by omega)
    have h2 : S0[n]? = none := List.getElem?_eq_none (by omega)
    simp only [fx_ad, h1, h2]
theorem fx_cv_pre {S0 S : fx_S} {c0 : Nat} (tb : Nat → Nat) (hG : fx_g S0 c0 S) (hl : S.length < 1000) {v : Value} (hv : c0 = 0 ∨ fx_okr S0.length v = true) : fx_cv tb S v = fx_cv tb S0 v := by
  cases v with
  | ref n =>
    simp only [fx_cv]
    rw [fx_ad_pre tb hG hl]
    rcases hv with h0 | hv
    · exact Or.inl h0
    · simp only [fx_okr, Bool.or_eq_true, decide_eq_true_eq] at hv
      exact Or.inr hv
  | _ => rfl
theorem fx_core {l : Launch} {M : fx_M} {B B' : Nat × Nat} {Q Q' : Option Value → fx_H → Prop} {c0 s0 pc ln : Nat} {ls : List (Option Value)} {rest st0 : List Value} {h : fx_H} {a : Array Value}
    {p : Program} {e : Env} {R : Room} {s : State} {m : MethodId} {args : Array Value} {below : List Frame} {meth : Method} {c : Code} {A : Nat → Prop} {D : va_G} {g : ClassId × ClassId × ClassId} {tb : Nat → Nat} {S0 : fx_S} {QQ : State → Prop} {H : Heap} {locs : List Loc} {la : Array Slot}
    (hX : fx_X M B p R s m args meth c A D g tb) (hE : fx_E l M B Q p e R s m args below meth c A D g tb S0 QQ) (hP : fx_P D g tb A h H) (hS : va_S A s.heap H locs) (hG : fx_g S0 c0 h.1) (hL : fx_L (fx_cv tb h.1) la M.2.2.1 ls)
    (hlv : B'.1 = 0 ∨ (fx_okl h.1.length ls = true ∧ rest.all (fx_okr h.1.length) = true))
    (hrun : fx_Run ln p l e R s m args below meth c H locs c0 s0 B'.1 B'.2 (F0 m pc la st0) (rest.map (fx_cv tb h.1)) (fx_Qc D g tb h H.size B' Q' a) (va_A (fx_ws g tb h) H.size))
    (k : ∀ v h2, Q' v h2 → fx_V l M B Q (c0 + B'.1) (s0 + B'.2) (pc + ln) ls (v.toList ++ rest) h2) :
    W p l e R s m args below meth c H locs c0 s0 QQ (F0 m pc la st0) := by
  obtain ⟨hx, hb, hml, hown, hts, hK, hA, hSt, hRm, hnm, hxw⟩ := id hX
  intro T hT X0
  obtain ⟨v, st₀, t, T', L, h0, X', hL', e1, e2, ⟨⟨v', h2, hv, hQ', hP2, hD2, hl2, hg2⟩, hz, hk⟩, st⟩ := hrun T hT X0
  cases hv
  rw [h0] at hz hk
  have hsub : ∀ q, va_A (fx_ws g tb h) H.size q → A q := by
    intro q hq
    rcases hq with ⟨j, e9, hj⟩ | hq
    · exact hP.2.1.2 j (q, e9) hj
    · exact hA q (Nat.le_trans hS.1 hq)
  have hcv : ∀ w : Value, (B'.1 = 0 ∨ fx_okr h.1.length w = true) → fx_cv tb h2.1 w = fx_cv tb h.1 w := fun w hw => fx_cv_pre tb hg2 hl2 hw
  have hP3 : fx_P D g tb A h2 T'.heap := ⟨by rw [e1]; exact hP2, hD2.weaken (fun j q _ hq => hsub q.1 hq), hl2⟩
  have hS3 : va_S A s.heap T'.heap (locs ++ L) := ⟨Nat.le_trans hS.1 (by rw [e1]; exact hz), fun q h1 h2 => by rw [e1, hk q (Nat.lt_of_lt_of_le h1 hS.1) (fun z => h2 (hsub q z))]; exact hS.2.1 q h1 h2, fun q hq => by
      rcases List.mem_append.mp hq with h | h
      · exact hS.2.2 q h
      · exact hsub _ (hL' q h)⟩
  have hL3 : fx_L (fx_cv tb h2.1) la M.2.2.1 ls := by
    refine ⟨hL.1, hL.2.1, fun i w hi => ?_⟩
    rw [hcv w]
    · exact hL.2.2 i w hi
    · rcases hlv with h | ⟨h, -⟩
      · exact Or.inl h
      · right
        have := List.all_eq_true.mp h (some w) (List.mem_of_getElem? hi)
        exact this
  have hR3 : rest.map (fx_cv tb h2.1) = rest.map (fx_cv tb h.1) := by
    refine List.map_congr_left fun w hw => hcv w ?_
    rcases hlv with h | ⟨-, h⟩
    · exact Or.inl h
    · exact Or.inr (List.all_eq_true.mp h w hw)
  obtain ⟨t2, a1, b1⟩ := k v' h2 hQ' p e R s m args below meth c A D g tb S0 QQ hX hE T'.heap (locs ++ L) la hP3 hS3 (fx_g_trans hG hg2) hL3 T' rfl X'
  refine ⟨t2, st t2 ?_, b1⟩
  have hst : (v'.toList ++ rest).map (fx_cv tb h2.1) = (v'.map (fx_cv tb h2.1)).toList ++ rest.map (fx_cv tb h.1) := by
    rw [List.map_append, hR3]
    cases v' <;> rfl
  rw [hst] at a1
  exact a1
theorem fx_St_in {tb : Nat → Nat} {A A1 : Nat → Prop} {s U : State} {H : Heap} {locs : List Loc} (h : fx_St tb A s s.heap) (hS : va_S A s.heap H locs) (hU : U.heap = H) (hvm : s.vm.Alike U.vm) (hAA : ∀ q, A1 q → A q) : fx_St tb A1 U U.heap := by
  obtain ⟨h0, z1, z2⟩ := h
  rw [hU]
  refine ⟨fun k q hq => ?_, ((z1.kept hS.2.1).narrow hAA).moved hvm, ((z2.kept hS.2.1).narrow hAA).moved hvm⟩
  obtain ⟨h1, h2⟩ := h0 k q hq
  exact ⟨((h1.kept hS.2.1).narrow hAA).moved hvm, ((h2.kept hS.2.1).narrow hAA).moved hvm⟩
/-- words that stay as the tables warm -/
theorem fx_xw_in {s U : State} (hW : s.WarmedH U.vm) (h : ∀ w ∈ fx_xw, va_Nw w s) : ∀ w ∈ fx_xw, va_Nw w U := fun w hw => fx_xw_warm w hw s U hW (h w hw)
theorem fx_pre {l : Launch} {M : fx_M} {B : Nat × Nat} {Q : Option Value → fx_H → Prop} {c0 : Nat} {h : fx_H} {vs : List Value}
    {p : Program} {R : Room} {s : State} {m : MethodId} {args : Array Value} {meth : Method} {c : Code} {A : Nat → Prop} {D : va_G} {g : ClassId × ClassId × ClassId} {tb : Nat → Nat} {H : Heap} {locs : List Loc}
    (hX : fx_X M B p R s m args meth c A D g tb) (hP : fx_P D g tb A h H) (hS : va_S A s.heap H locs) :
    PreS s H (va_Pc (vs.map (fx_cv tb h.1)) (fx_In D g tb h H.size)) (vs.map (fx_cv tb h.1)) := by
  obtain ⟨hx, hb, hml, hown, hts, hK, hA, hSt, hRm, hnm, hxw⟩ := id hX
  refine ⟨fun a U g9 mk q => ?_, fun U hU hW => ⟨rfl, ?_⟩⟩
  · obtain ⟨q0, q1, qP, qK, qD, ql, qS, qx⟩ := q
    exact ⟨q0, q1, qP, va_K.moved (u := U) (U := U.calling g9 mk a) (Vm.Alike.refl U.vm) qK, qD, ql, ⟨fun k q hq => ⟨(qS.1 k q hq).1.moved (Vm.Alike.refl U.vm), (qS.1 k q hq).2.moved (Vm.Alike.refl U.vm)⟩, qS.2.1.moved (Vm.Alike.refl U.vm), qS.2.2.moved (Vm.Alike.refl U.vm)⟩, fun w hw => fx_xw_same w hw U (U.calling g9 mk a) rfl (qx w hw)⟩
  · refine ⟨by rw [hU], by rw [hU]; exact hP.1, va_K.moved hW.alike hK, hP.2.1.weaken (fun _ _ _ _ => trivial), hP.2.2, ?_, fx_xw_in hW hxw⟩
    refine fx_St_in hSt hS hU hW.alike fun q hq => ?_
    rcases hq with ⟨j, e9, hj⟩ | hq
    · exact hP.2.1.2 j (q, e9) hj
    · exact hA q (Nat.le_trans hS.1 hq)
