/-! The machine in small: a state is numbers (fields, arrays) over a world of fixed shape; fx_V is the walk of one method from a place, closed over the machine's own context; fx_Mt a method's contract in the same words. -/
/-- what a cell is: an object of the list fx_cl (its number, its references by slot), or an array (kind 0 int, 1 boolean, 2 long; its length) -/
abbrev fx_Sh : Type := (Nat × List (Option Nat)) ⊕ (Nat × Nat)
abbrev fx_S : Type := List (Nat × fx_Sh)
/-- the world: addresses and shapes; int fields by place and slot; int and boolean arrays; long arrays -/
abbrev fx_H : Type := fx_S × (Nat → Nat → Int) × (Nat → Nat → Int) × (Nat → Nat → Int)
/-- a method: name, code, locals, answer, rank (callees have a smaller one) -/
abbrev fx_M : Type := MethodName × ByteArray × Nat × Option FieldType × Nat × Nat
def fx_ad (tb : Nat → Nat) (S : fx_S) (n : Nat) : Nat := match S[n]? with
  | some q => q.1
  | none => tb n
def fx_cv (tb : Nat → Nat) (S : fx_S) (v : Value) : Value := match v with
  | .ref n => .ref (fx_ad tb S n)
  | w => w
def fx_fv (tb : Nat → Nat) (S : fx_S) (F : Nat → Int) (ci : Nat) (rs : List (Option Nat)) (k : Nat) : Value :=
  bif fx_kd ci k then (match rs.getD k none with
    | some q => .ref (fx_ad tb S q)
    | none => .null) else .int (zI (F k))
def fx_ob (tb : Nat → Nat) (S : fx_S) (F : Nat → Int) (ci : Nat) (rs : List (Option Nat)) : List Value := (List.range (fx_nf ci)).map (fx_fv tb S F ci rs)
def fx_ce (g : ClassId × ClassId × ClassId) (tb : Nat → Nat) (h : fx_H) (p : Nat) (sh : fx_Sh) : va_E := match sh with
  | .inl o => .inr (o.1, fx_ob tb h.1 (h.2.1 p) o.1 o.2)
  | .inr (0, n) => .inl (g.1, n, .inl (fun j => zI (h.2.2.1 p j)))
  | .inr (1, n) => .inl (g.2.1, n, .inl (fun j => zI (h.2.2.1 p j)))
  | .inr (_, n) => .inl (g.2.2, n, .inr (.inl (fun j => zL (h.2.2.2 p j))))
def fx_ws (g : ClassId × ClassId × ClassId) (tb : Nat → Nat) (h : fx_H) : va_W := h.1.mapIdx fun p q => (q.1, fx_ce g tb h p q.2)
abbrev fx_ty (g : ClassId × ClassId × ClassId) : List (ClassId × FieldType) := [(g.1, .int), (g.2.1, .boolean), (g.2.2, .long)]
def fx_St (tb : Nat → Nat) (A : Nat → Prop) (U : State) (H : Heap) : Prop := (∀ (k : Nat) (q : String × Nat × (Nat → Int)), fx_tabs[k]? = some q →
  va_Z "FaxPages" q.1 "[I" (.ref (tb (1000 + k))) A U H ∧ va_T .int (tb (1000 + k)) q.2.1 (fun j => .int (zI (q.2.2 j))) A U H) ∧
  va_Zq "java/lang/Throwable" "UNASSIGNED_STACK" "[Ljava/lang/StackTraceElement;" A U H ∧ va_Zq "java/lang/Throwable" "SUPPRESSED_SENTINEL" "Ljava/util/List;" A U H
def fx_P (D : va_G) (g : ClassId × ClassId × ClassId) (tb : Nat → Nat) (A : Nat → Prop) (h : fx_H) (H : Heap) : Prop := va_P D fx_cl (fx_ws g tb h) H ∧ va_D A (fx_ws g tb h) ∧ h.1.length < 1000
/-- the addresses that were there stay; where nothing was made they are the same -/
def fx_g (S0 : fx_S) (c0 : Nat) (S : fx_S) : Prop := (∃ T, S.map Prod.fst = S0.map Prod.fst ++ T) ∧ (c0 = 0 → S.map Prod.fst = S0.map Prod.fst)
def fx_L (cv : Value → Value) (la : Array Slot) (nL : Nat) (ls : List (Option Value)) : Prop := la.size = nL ∧ lv_wf la ∧ ∀ (i : Nat) (v : Value), ls[i]? = some (some v) → la[i]? = some (.val (cv v))
def fx_rm (M : fx_M) (B : Nat × Nat) : Room := { frames := M.2.2.2.2.1, cells := B.1, slots := B.2, locals := M.2.2.2.2.2 }
def fx_ret (M : fx_M) (v : Option Value) (pc : Nat) : Prop := match v with
  | none => M.2.2.2.1 = none ∧ decode M.2.1 pc = .ok (.return_, 1)
  | some (.int x) => (∃ ty, M.2.2.2.1 = some ty ∧ narrow ty (.int x) = .int x) ∧ decode M.2.1 pc = .ok (.ireturn, 1)
  | some (.long _) => M.2.2.2.1 = some .long ∧ decode M.2.1 pc = .ok (.lreturn, 1)
  | some (.ref _) => (∃ rt, M.2.2.2.1 = some rt ∧ ((∃ n, rt = .object n) ∨ ∃ t, rt = .array t)) ∧ decode M.2.1 pc = .ok (.areturn, 1)
  | _ => False
/-- what a walk knows of the machine around it -/
def fx_X (M : fx_M) (B : Nat × Nat) (p : Program) (R : Room) (s : State) (m : MethodId) (args : Array Value) (meth : Method) (c : Code) (A : Nat → Prop) (D : va_G) (g : ClassId × ClassId × ClassId) (tb : Nat → Nat) : Prop :=
  p.tables.exec = Jvm.exec ∧ c.code = M.2.1 ∧ c.maxLocals = M.2.2.1 ∧ s.vm.findClass M.1.cls = some m.cls ∧ (∀ w ∈ fx_tb, w.before args s = true) ∧ va_K D fx_cl (fx_ty g) s ∧
  (∀ q : Nat, s.heap.size ≤ q → A q) ∧ fx_St tb A s s.heap ∧ (M.2.2.2.2.1 ≤ R.frames ∧ M.2.2.2.2.2 ≤ R.locals ∧ B.1 ≤ R.cells ∧ B.2 ≤ R.slots) ∧ meth.name = M.1.name ∧ ∀ w ∈ fx_xw, va_Nw w s
/-- what an end is worth -/
def fx_E (l : Launch) (M : fx_M) (B : Nat × Nat) (Q : Option Value → fx_H → Prop) (p : Program) (e : Env) (R : Room) (s : State) (m : MethodId) (args : Array Value) (below : List Frame) (meth : Method) (c : Code) (A : Nat → Prop) (D : va_G) (g : ClassId × ClassId × ClassId) (tb : Nat → Nat) (S0 : fx_S) (QQ : State → Prop) : Prop :=
  ∀ (v : Option Value) (h : fx_H) (H : Heap) (locs : List Loc) (c0 s0 pc : Nat) (la : Array Slot), Q v h → fx_P D g tb A h H → va_S A s.heap H locs → fx_g S0 c0 h.1 → c0 ≤ B.1 → s0 ≤ B.2 → fx_ret M v pc →
    W p l e R s m args below meth c H locs c0 s0 QQ (F0 m pc la ((v.map (fx_cv tb h.1)).toList))
def fx_V (l : Launch) (M : fx_M) (B : Nat × Nat) (Q : Option Value → fx_H → Prop) (c0 s0 pc : Nat) (ls : List (Option Value)) (st : List Value) (h : fx_H) : Prop :=
  ∀ (p : Program) (e : Env) (R : Room) (s : State) (m : MethodId) (args : Array Value) (below : List Frame) (meth : Method) (c : Code) (A : Nat → Prop) (D : va_G) (g : ClassId × ClassId × ClassId) (tb : Nat → Nat) (S0 : fx_S) (QQ : State → Prop),
    fx_X M B p R s m args meth c A D g tb → fx_E l M B Q p e R s m args below meth c A D g tb S0 QQ → ∀ (H : Heap) (locs : List Loc) (la : Array Slot),
    fx_P D g tb A h H → va_S A s.heap H locs → fx_g S0 c0 h.1 → fx_L (fx_cv tb h.1) la M.2.2.1 ls →
    W p l e R s m args below meth c H locs c0 s0 QQ (F0 m pc la (st.map (fx_cv tb h.1)))
/-! shapes and values -/
theorem fx_cv_int (tb : Nat → Nat) (S : fx_S) (x : Int32) : fx_cv tb S (.int x) = .int x := rfl
theorem fx_cv_cat (tb : Nat → Nat) (S : fx_S) (v : Value) : (fx_cv tb S v).category = v.category := by cases v <;> rfl
theorem fx_ws_at {g : ClassId × ClassId × ClassId} {tb : Nat → Nat} {h : fx_H} {p : Nat} {q : Nat × fx_Sh} (hq : h.1[p]? = some q) : (fx_ws g tb h)[p]? = some (q.1, fx_ce g tb h p q.2) := by
  simp only [fx_ws, List.getElem?_mapIdx, hq, Option.map_some]
theorem fx_ad_at {tb : Nat → Nat} {S : fx_S} {n : Nat} {q : Nat × fx_Sh} (hq : S[n]? = some q) : fx_ad tb S n = q.1 := by simp only [fx_ad, hq]
theorem fx_ad_fst {S S' : fx_S} (tb : Nat → Nat) (hS : S'.map Prod.fst = S.map Prod.fst) (n : Nat) : fx_ad tb S' n = fx_ad tb S n := by
  have h := congrArg (fun l : List Nat => l[n]?) hS
  simp only [List.getElem?_map] at h
  unfold fx_ad
  cases h1 : S[n]? with
  | none =>
    rw [h1] at h
    cases h2 : S'[n]? with
    | none => rfl
    | some q => rw [h2] at h; cases h
  | some q =>
    rw [h1] at h
    cases h2 : S'[n]? with
    | none => rw [h2] at h; cases h
    | some q' => rw [h2] at h; exact Option.some.inj h
theorem fx_cv_fst {S S' : fx_S} (tb : Nat → Nat) (hS : S'.map Prod.fst = S.map Prod.fst) : fx_cv tb S' = fx_cv tb S := by
  funext v
  cases v <;> first | rfl | (simp only [fx_cv, fx_ad_fst tb hS])
theorem fx_ob_len (tb : Nat → Nat) (S : fx_S) (F : Nat → Int) (ci : Nat) (rs : List (Option Nat)) : (fx_ob tb S F ci rs).length = fx_nf ci := by simp [fx_ob]
theorem fx_ob_at (tb : Nat → Nat) (S : fx_S) (F : Nat → Int) (ci : Nat) (rs : List (Option Nat)) {k : Nat} (hk : k < fx_nf ci) : (fx_ob tb S F ci rs)[k]? = some (fx_fv tb S F ci rs k) := by
  simp [fx_ob, hk]
/-- one int field changed -/
def fx_uF (h : fx_H) (p k : Nat) (x : Int) : fx_H := (h.1, fun a b => if a = p ∧ b = k then x else h.2.1 a b, h.2.2.1, h.2.2.2)
def fx_uA (h : fx_H) (p k : Nat) (x : Int) : fx_H := (h.1, h.2.1, fun a b => if a = p ∧ b = k then x else h.2.2.1 a b, h.2.2.2)
def fx_uL (h : fx_H) (p k : Nat) (x : Int) : fx_H := (h.1, h.2.1, h.2.2.1, fun a b => if a = p ∧ b = k then x else h.2.2.2 a b)
def fx_uR (h : fx_H) (p : Nat) (q : Nat × fx_Sh) : fx_H := (h.1.set p q, h.2.1, h.2.2.1, h.2.2.2)
theorem fx_list_ext {α : Type} {l1 l2 : List α} (h : ∀ i : Nat, l1[i]? = l2[i]?) : l1 = l2 := List.ext_getElem? h
theorem fx_ws_uF {g : ClassId × ClassId × ClassId} {tb : Nat → Nat} {h : fx_H} {p k a ci : Nat} {rs : List (Option Nat)} {x : Int} (hq : h.1[p]? = some (a, .inl (ci, rs))) (hk : k < fx_nf ci) (hi : fx_kd ci k = false) :
    (fx_ws g tb h).set p (a, .inr (ci, (fx_ob tb h.1 (h.2.1 p) ci rs).set k (.int (zI x)))) = fx_ws g tb (fx_uF h p k x) := by
  have hl : p < (fx_ws g tb h).length := by
    have := fx_ws_at (g := g) (tb := tb) hq
    exact (List.getElem?_eq_some_iff.mp this).1
  refine fx_list_ext fun i => ?_
  by_cases hip : i = p
  · subst hip
    rw [List.getElem?_set_self hl, fx_ws_at (h := fx_uF h i k x) (p := i) (q := (a, .inl (ci, rs))) hq]
    refine congrArg some (congrArg (Prod.mk a) (congrArg Sum.inr (congrArg (Prod.mk ci) ?_)))
    refine fx_list_ext fun j => ?_
    show ((fx_ob tb h.1 (h.2.1 i) ci rs).set k (.int (zI x)))[j]? = (fx_ob tb h.1 ((fx_uF h i k x).2.1 i) ci rs)[j]?
    by_cases hj : j < fx_nf ci
    · rw [fx_ob_at _ _ _ _ _ hj]
      by_cases hjk : j = k
      · subst hjk
        rw [List.getElem?_set_self (by rw [fx_ob_len]; exact hk)]
        simp [fx_fv, hi, fx_uF]
      · rw [List.getElem?_set_ne (Ne.symm hjk), fx_ob_at _ _ _ _ _ hj]
        simp only [fx_fv, fx_uF, hjk, and_false, if_false]
    · rw [List.getElem?_eq_none (by rw [List.length_set, fx_ob_len]; omega), List.getElem?_eq_none (by rw [fx_ob_len]; omega)]
  · rw [List.getElem?_set_ne (Ne.symm hip)]
    simp only [fx_ws, List.getElem?_mapIdx]
    show Option.map _ h.1[i]? = Option.map _ h.1[i]?
    cases hi2 : h.1[i]? with
    | none => rfl
    | some q =>
      simp only [Option.map_some]
      have hF : (fx_uF h p k x).2.1 i = h.2.1 i := by funext b; simp only [fx_uF, hip, false_and, if_false]
      obtain ⟨a2, sh⟩ := q
      match sh with
      | .inl o => simp only [fx_ce, hF]; rfl
      | .inr (0, n') => rfl
      | .inr (1, n') => rfl
      | .inr (_ + 2, n') => rfl
theorem fx_ws_len (g : ClassId × ClassId × ClassId) (tb : Nat → Nat) (h : fx_H) : (fx_ws g tb h).length = h.1.length := by simp [fx_ws]
theorem fx_ws_uA {g : ClassId × ClassId × ClassId} {tb : Nat → Nat} {h : fx_H} {p k a n kd : Nat} {cA : ClassId} {x : Int} (hq : h.1[p]? = some (a, .inr (kd, n))) (hc : kd = 0 ∧ cA = g.1 ∨ kd = 1 ∧ cA = g.2.1) :
    (fx_ws g tb h).set p (a, .inl (cA, n, .inl (upd (fun j => zI (h.2.2.1 p j)) k (zI x)))) = fx_ws g tb (fx_uA h p k x) := by
  have hl : p < (fx_ws g tb h).length := by
    have := fx_ws_at (g := g) (tb := tb) hq
    exact (List.getElem?_eq_some_iff.mp this).1
  refine fx_list_ext fun i => ?_
  by_cases hip : i = p
  · subst hip
    rw [List.getElem?_set_self hl, fx_ws_at (h := fx_uA h i k x) (p := i) (q := (a, .inr (kd, n))) hq]
    have hA : (fun j => zI ((fx_uA h i k x).2.2.1 i j)) = upd (fun j => zI (h.2.2.1 i j)) k (zI x) := by
      funext b
      simp only [fx_uA, upd, true_and]
      split <;> rfl
    rcases hc with ⟨rfl, rfl⟩ | ⟨rfl, rfl⟩
    · simp only [fx_ce, hA]
    · simp only [fx_ce, hA]
  · rw [List.getElem?_set_ne (Ne.symm hip)]
    simp only [fx_ws, List.getElem?_mapIdx]
    show Option.map _ h.1[i]? = Option.map _ h.1[i]?
    cases hi2 : h.1[i]? with
    | none => rfl
    | some q =>
      simp only [Option.map_some]
      have hA : (fx_uA h p k x).2.2.1 i = h.2.2.1 i := by funext b; simp only [fx_uA, hip, false_and, if_false]
      obtain ⟨a2, sh⟩ := q
      match sh with
      | .inl o => rfl
      | .inr (0, n') => simp only [fx_ce, hA]
      | .inr (1, n') => simp only [fx_ce, hA]
      | .inr (_ + 2, n') => rfl
theorem fx_ws_uL {g : ClassId × ClassId × ClassId} {tb : Nat → Nat} {h : fx_H} {p k a n : Nat} {x : Int} (hq : h.1[p]? = some (a, .inr (2, n))) :
    (fx_ws g tb h).set p (a, .inl (g.2.2, n, .inr (.inl (vp_updL (fun j => zL (h.2.2.2 p j)) k (zL x))))) = fx_ws g tb (fx_uL h p k x) := by
  have hl : p < (fx_ws g tb h).length := by
    have := fx_ws_at (g := g) (tb := tb) hq
    exact (List.getElem?_eq_some_iff.mp this).1
  refine fx_list_ext fun i => ?_
  by_cases hip : i = p
  · subst hip
    rw [List.getElem?_set_self hl, fx_ws_at (h := fx_uL h i k x) (p := i) (q := (a, .inr (2, n))) hq]
    have hA : (fun j => zL ((fx_uL h i k x).2.2.2 i j)) = vp_updL (fun j => zL (h.2.2.2 i j)) k (zL x) := by
      funext b
      simp only [fx_uL, vp_updL, true_and]
      split <;> rfl
    simp only [fx_ce, hA]
  · rw [List.getElem?_set_ne (Ne.symm hip)]
    simp only [fx_ws, List.getElem?_mapIdx]
    show Option.map _ h.1[i]? = Option.map _ h.1[i]?
    cases hi2 : h.1[i]? with
    | none => rfl
    | some q =>
      simp only [Option.map_some]
      have hA : (fx_uL h p k x).2.2.2 i = h.2.2.2 i := by funext b; simp only [fx_uL, hip, false_and, if_false]
      obtain ⟨a2, sh⟩ := q
      match sh with
      | .inl o => rfl
      | .inr (0, n') => rfl
      | .inr (1, n') => rfl
      | .inr (_ + 2, n') => simp only [fx_ce, hA]
theorem fx_map_set {S : fx_S} {p a : Nat} {sh sh' : fx_Sh} (hq : S[p]? = some (a, sh)) : (S.set p (a, sh')).map Prod.fst = S.map Prod.fst := by
  refine fx_list_ext fun i => ?_
  simp only [List.getElem?_map]
  by_cases hip : i = p
  · subst hip
    rw [List.getElem?_set_self (List.getElem?_eq_some_iff.mp hq).1, hq]
    rfl
  · rw [List.getElem?_set_ne (Ne.symm hip)]
theorem fx_ws_uR {g : ClassId × ClassId × ClassId} {tb : Nat → Nat} {h : fx_H} {p k a ci : Nat} {rs : List (Option Nat)} {r : Option Nat} (hq : h.1[p]? = some (a, .inl (ci, rs))) (hk : k < fx_nf ci) (hr : k < rs.length) (hi : fx_kd ci k = true) :
    (fx_ws g tb h).set p (a, .inr (ci, (fx_ob tb h.1 (h.2.1 p) ci rs).set k (match r with | some q => .ref (fx_ad tb h.1 q) | none => .null))) = fx_ws g tb (fx_uR h p (a, .inl (ci, rs.set k r))) := by
  have hl : p < (fx_ws g tb h).length := by
    have := fx_ws_at (g := g) (tb := tb) hq
    exact (List.getElem?_eq_some_iff.mp this).1
  have hpl : p < h.1.length := (List.getElem?_eq_some_iff.mp hq).1
  have hfst : (fx_uR h p (a, .inl (ci, rs.set k r))).1.map Prod.fst = h.1.map Prod.fst := fx_map_set hq
  have had : ∀ n, fx_ad tb (fx_uR h p (a, .inl (ci, rs.set k r))).1 n = fx_ad tb h.1 n := fx_ad_fst tb hfst
  have hat : (fx_uR h p (a, .inl (ci, rs.set k r))).1[p]? = some (a, .inl (ci, rs.set k r)) := List.getElem?_set_self hpl
  have hfv : ∀ (F : Nat → Int) (ci' : Nat) (rs' : List (Option Nat)) (j : Nat), fx_fv tb (fx_uR h p (a, .inl (ci, rs.set k r))).1 F ci' rs' j = fx_fv tb h.1 F ci' rs' j := by
    intro F ci' rs' j
    simp only [fx_fv, had]
  have hob : ∀ (F : Nat → Int) (ci' : Nat) (rs' : List (Option Nat)), fx_ob tb (fx_uR h p (a, .inl (ci, rs.set k r))).1 F ci' rs' = fx_ob tb h.1 F ci' rs' := by
    intro F ci' rs'
    simp only [fx_ob]
    exact List.map_congr_left fun j _ => hfv F ci' rs' j
  refine fx_list_ext fun i => ?_
  by_cases hip : i = p
  · subst hip
    rw [List.getElem?_set_self hl, fx_ws_at hat]
    refine congrArg some (congrArg (Prod.mk a) (congrArg Sum.inr (congrArg (Prod.mk ci) ?_)))
    show _ = fx_ob tb (fx_uR h i (a, .inl (ci, rs.set k r))).1 (h.2.1 i) ci (rs.set k r)
    rw [hob]
    refine fx_list_ext fun j => ?_
    by_cases hj : j < fx_nf ci
    · rw [fx_ob_at _ _ _ _ _ hj]
      by_cases hjk : j = k
      · subst hjk
        rw [List.getElem?_set_self (by rw [fx_ob_len]; exact hk)]
        simp only [fx_fv, hi, cond_true, List.getD_eq_getElem?_getD, List.getElem?_set_self hr, Option.getD_some]
      · rw [List.getElem?_set_ne (Ne.symm hjk), fx_ob_at _ _ _ _ _ hj]
        simp only [fx_fv, List.getD_eq_getElem?_getD, List.getElem?_set_ne (Ne.symm hjk)]
    · rw [List.getElem?_eq_none (by rw [List.length_set, fx_ob_len]; omega), List.getElem?_eq_none (by rw [fx_ob_len]; omega)]
  · rw [List.getElem?_set_ne (Ne.symm hip)]
    simp only [fx_ws, List.getElem?_mapIdx]
    have he : (fx_uR h p (a, .inl (ci, rs.set k r))).1[i]? = h.1[i]? := List.getElem?_set_ne (Ne.symm hip)
    rw [he]
    cases hi2 : h.1[i]? with
    | none => rfl
    | some q =>
      simp only [Option.map_some]
      obtain ⟨a2, sh⟩ := q
      match sh with
      | .inl o =>
        refine congrArg some (congrArg (Prod.mk a2) (congrArg Sum.inr (congrArg (Prod.mk o.1) ?_)))
        exact (hob _ _ _).symm
      | .inr (0, n') => rfl
      | .inr (1, n') => rfl
      | .inr (_ + 2, n') => rfl
theorem fx_g_rf (S : fx_S) : fx_g S 0 S := ⟨⟨[], by simp⟩, fun _ => rfl⟩
theorem fx_g_set {S0 S : fx_S} {c0 p a : Nat} {sh sh' : fx_Sh} (h : fx_g S0 c0 S) (hq : S[p]? = some (a, sh)) : fx_g S0 c0 (S.set p (a, sh')) := by
  unfold fx_g
  rw [fx_map_set hq]
  exact h
theorem fx_g_trans {S0 S1 S2 : fx_S} {c0 b : Nat} (h : fx_g S0 c0 S1) (h2 : fx_g S1 b S2) : fx_g S0 (c0 + b) S2 := by
  obtain ⟨⟨T, hT⟩, h0⟩ := h
  obtain ⟨⟨T2, hT2⟩, h02⟩ := h2
  exact ⟨⟨T ++ T2, by rw [hT2, hT, List.append_assoc]⟩, fun hz => (h02 (by omega)).trans (h0 (by omega))⟩
theorem fx_P_fst {D : va_G} {g : ClassId × ClassId × ClassId} {tb : Nat → Nat} {A : Nat → Prop} {h : fx_H} {H : Heap} (hP : fx_P D g tb A h H) {p : Nat} {q : Nat × fx_Sh} (hq : h.1[p]? = some q) : A q.1 := hP.2.1.2 p _ (fx_ws_at hq)
/-! locals -/
def fx_as (cv : Value → Value) : Nat → List (Option Value) → List (Nat × Value)
  | _, [] => []
  | k, some v :: t => (k, cv v) :: fx_as cv (k + 1) t
  | k, none :: t => fx_as cv (k + 1) t
theorem fx_as_mem {cv : Value → Value} : ∀ (ls : List (Option Value)) (k : Nat) (q : Nat × Value), q ∈ fx_as cv k ls ↔ ∃ v, k ≤ q.1 ∧ ls[q.1 - k]? = some (some v) ∧ q.2 = cv v
  | [], k, q => by simp [fx_as]
  | some w :: t, k, q => by
    simp only [fx_as, List.mem_cons, fx_as_mem t (k + 1) q]
    constructor
    · rintro (rfl | ⟨v, h1, h2, h3⟩)
      · exact ⟨w, Nat.le_refl _, by simp, rfl⟩
      · refine ⟨v, by omega, ?_, h3⟩
        have e : q.1 - k = (q.1 - (k + 1)) + 1 := by omega
        rw [e, List.getElem?_cons_succ]
        exact h2
    · rintro ⟨v, h1, h2, h3⟩
      by_cases he : q.1 = k
      · left
        rw [he, Nat.sub_self, List.getElem?_cons_zero] at h2
        cases h2
        exact Prod.ext he h3
      · right
        have e : q.1 - k = (q.1 - (k + 1)) + 1 := by omega
        rw [e, List.getElem?_cons_succ] at h2
        exact ⟨v, by omega, h2, h3⟩
  | none :: t, k, q => by
    simp only [fx_as, fx_as_mem t (k + 1) q]
    constructor
    · rintro ⟨v, h1, h2, h3⟩
      refine ⟨v, by omega, ?_, h3⟩
      have e : q.1 - k = (q.1 - (k + 1)) + 1 := by omega
      rw [e, List.getElem?_cons_succ]
      exact h2
    · rintro ⟨v, h1, h2, h3⟩
      by_cases he : q.1 = k
      · rw [he, Nat.sub_self, List.getElem?_cons_zero] at h2
        cases h2
      · have e : q.1 - k = (q.1 - (k + 1)) + 1 := by omega
        rw [e, List.getElem?_cons_succ] at h2
        exact ⟨v, by omega, h2, h3⟩
theorem fx_L_has {cv : Value → Value} {la : Array Slot} {nL : Nat} {ls : List (Option Value)} (h : fx_L cv la nL ls) : lv_has la nL (fx_as cv 0 ls) := by
  refine ⟨h.1, h.2.1, fun q hq => ?_⟩
  obtain ⟨v, -, h2, h3⟩ := (fx_as_mem ls 0 q).mp hq
  rw [h3]
  exact h.2.2 q.1 v (by simpa using h2)
theorem fx_has_L {cv : Value → Value} {la : Array Slot} {nL : Nat} {ls : List (Option Value)} {l : List (Nat × Value)} (h : lv_has la nL l) (hl : ∀ (i : Nat) (v : Value), ls[i]? = some (some v) → (i, cv v) ∈ l) : fx_L cv la nL ls :=
  ⟨h.1, h.2.1, fun i v hi => h.2.2 (i, cv v) (hl i v hi)⟩
/-- a store of a value of one word: it takes the place, and half of a long before it is gone -/
def fx_s1 (i : Nat) (v : Value) (ls : List (Option Value)) : List (Option Value) :=
  match i with
  | 0 => ls.set 0 (some v)
  | j + 1 => match ls[j]? with
    | some (some (.long _)) => (ls.set (j + 1) (some v)).set j none
    | some (some (.double _)) => (ls.set (j + 1) (some v)).set j none
    | _ => ls.set (j + 1) (some v)
def fx_s2 (i : Nat) (v : Value) (ls : List (Option Value)) : List (Option Value) := (fx_s1 i v ls).set (i + 1) none
theorem fx_s1_at {i : Nat} {v w : Value} {ls : List (Option Value)} {j : Nat} (h : (fx_s1 i v ls)[j]? = some (some w)) : (j = i ∧ w = v) ∨ (j ≠ i ∧ ls[j]? = some (some w) ∧ ¬ (j + 1 = i ∧ w.category = 2)) := by
  have base : ∀ {i : Nat}, (ls.set i (some v))[j]? = some (some w) → (j = i ∧ w = v) ∨ (j ≠ i ∧ ls[j]? = some (some w)) := by
    intro i h
    by_cases hj : j = i
    · subst hj
      left
      by_cases hl : j < ls.length
      · rw [List.getElem?_set_self hl] at h
        cases h
        exact ⟨rfl, rfl⟩
      · rw [List.getElem?_eq_none (by rw [List.length_set]; omega)] at h
        cases h
    · rw [List.getElem?_set_ne (Ne.symm hj)] at h
      exact Or.inr ⟨hj, h⟩
  cases i with
  | zero =>
    rcases base h with h | ⟨h1, h2⟩
    · exact Or.inl h
    · exact Or.inr ⟨h1, h2, fun z => by omega⟩
  | succ i =>
    have kill : ∀ {l2 : List (Option Value)}, (l2.set i none)[j]? = some (some w) → j ≠ i ∧ l2[j]? = some (some w) := by
      intro l2 h
      by_cases hj : j = i
      · subst hj
        by_cases hl : j < l2.length
        · rw [List.getElem?_set_self hl] at h; cases h
        · rw [List.getElem?_eq_none (by rw [List.length_set]; omega)] at h; cases h
      · rw [List.getElem?_set_ne (Ne.symm hj)] at h
        exact ⟨hj, h⟩
    unfold fx_s1 at h
    dsimp only at h
    split at h
    · obtain ⟨h1, h2⟩ := kill h
      rcases base h2 with h | ⟨h3, h4⟩
      · exact Or.inl h
      · exact Or.inr ⟨h3, h4, fun z => h1 (by omega)⟩
    · obtain ⟨h1, h2⟩ := kill h
      rcases base h2 with h | ⟨h3, h4⟩
      · exact Or.inl h
      · exact Or.inr ⟨h3, h4, fun z => h1 (by omega)⟩
    · rename_i n1 n2
      rcases base h with h | ⟨h3, h4⟩
      · exact Or.inl h
      · refine Or.inr ⟨h3, h4, fun z => ?_⟩
        obtain ⟨z1, z2⟩ := z
        have : j = i := by omega
        subst this
        cases w <;> simp [Value.category] at z2
        · exact n1 _ h4
        · exact n2 _ h4
theorem fx_L_s1 {cv : Value → Value} (hcv : ∀ v : Value, (cv v).category = v.category) {la : Array Slot} {nL i : Nat} {ls : List (Option Value)} {v : Value}
    (h : lv_has la nL ((i, cv v) :: (fx_as cv 0 ls).filter (fun q => !(q.1 == i) && !(q.1 + 1 == i && q.2.category == 2)))) : fx_L cv la nL (fx_s1 i v ls) := by
  refine fx_has_L h fun j w hj => ?_
  rcases fx_s1_at hj with ⟨rfl, rfl⟩ | ⟨h1, h2, h3⟩
  · exact List.mem_cons_self
  · refine List.mem_cons_of_mem _ (List.mem_filter.mpr ⟨(fx_as_mem ls 0 _).mpr ⟨w, Nat.zero_le _, by simpa using h2, rfl⟩, ?_⟩)
    simp only [hcv, Bool.and_eq_true, Bool.not_eq_true', beq_eq_false_iff_ne, ne_eq, Bool.and_eq_false_iff]
    refine ⟨h1, ?_⟩
    by_cases hz : j + 1 = i
    · exact Or.inr fun z => h3 ⟨hz, z⟩
    · exact Or.inl hz
theorem fx_L_s2 {cv : Value → Value} (hcv : ∀ v : Value, (cv v).category = v.category) {la : Array Slot} {nL i : Nat} {ls : List (Option Value)} {v : Value}
    (h : lv_has la nL ((i, cv v) :: (fx_as cv 0 ls).filter (fun q => !(q.1 == i) && (!(q.1 == i + 1) && !(q.1 + 1 == i && q.2.category == 2))))) : fx_L cv la nL (fx_s2 i v ls) := by
  refine fx_has_L h fun j w hj => ?_
  have hj1 : j ≠ i + 1 := by
    intro z
    subst z
    unfold fx_s2 at hj
    by_cases hl : i + 1 < (fx_s1 i v ls).length
    · rw [List.getElem?_set_self hl] at hj; cases hj
    · rw [List.getElem?_eq_none (by rw [List.length_set]; omega)] at hj; cases hj
  unfold fx_s2 at hj
  rw [List.getElem?_set_ne (Ne.symm hj1)] at hj
  rcases fx_s1_at hj with ⟨rfl, rfl⟩ | ⟨h1, h2, h3⟩
  · exact List.mem_cons_self
  · refine List.mem_cons_of_mem _ (List.mem_filter.mpr ⟨(fx_as_mem ls 0 _).mpr ⟨w, Nat.zero_le _, by simpa using h2, rfl⟩, ?_⟩)
    simp only [hcv, Bool.and_eq_true, Bool.not_eq_true', beq_eq_false_iff_ne, ne_eq, Bool.and_eq_false_iff]
    refine ⟨h1, hj1, ?_⟩
    by_cases hz : j + 1 = i
    · exact Or.inr fun z => h3 ⟨hz, z⟩
    · exact Or.inl hz
/-- fewer values known -/
def fx_sub : List (Option Value) → List (Option Value) → Prop
  | [], _ => True
  | none :: a, b => fx_sub a b.tail
  | some x :: a, b => b.head? = some (some x) ∧ fx_sub a b.tail
theorem fx_sub_at : ∀ (a b : List (Option Value)), fx_sub a b → ∀ (i : Nat) (v : Value), a[i]? = some (some v) → b[i]? = some (some v)
  | [], b, _, i, v, h => by simp at h
  | none :: a, b, hs, i, v, h => by
    cases i with
    | zero => simp at h
    | succ i =>
      rw [List.getElem?_cons_succ] at h
      have := fx_sub_at a b.tail hs i v h
      cases b with
      | nil => simp at this
      | cons y b => rw [List.getElem?_cons_succ]; exact this
  | some x :: a, b, hs, i, v, h => by
    cases i with
    | zero =>
      rw [List.getElem?_cons_zero] at h
      cases h
      cases b with
      | nil => have := hs.1; simp at this
      | cons y b => have := hs.1; rw [List.head?_cons] at this; rw [List.getElem?_cons_zero]; exact this
    | succ i =>
      rw [List.getElem?_cons_succ] at h
      have := fx_sub_at a b.tail hs.2 i v h
      cases b with
      | nil => simp at this
      | cons y b => rw [List.getElem?_cons_succ]; exact this
