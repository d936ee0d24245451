/-! what the tables know where the law begins -/
theorem ws_c : ∀ (c : Nat) (q : vw_C), fx_cl[c]? = some q → (∀ w ∈ u_ws q.1 q.2.1 q.2.2, w ∈ fx_tb) ∧ ∃ n, Cond.instantiable q.1 n ∈ fx_tb := by
  have key : ∀ {ci : Nat} {C : String} {T : u_T} {N : Nat} {ty : Nat → FieldType}, fx_Cl ci C T N ty → ∀ q : vw_C, fx_cl[ci]? = some q → (∀ w ∈ u_ws q.1 q.2.1 q.2.2, w ∈ fx_tb) ∧ ∃ n, Cond.instantiable q.1 n ∈ fx_tb := by
    intro ci C T N ty hC q hq
    obtain ⟨c1, c2, c3, c4, c5, c6, -⟩ := hC
    cases hq.symm.trans c1
    exact ⟨c2, N, c6⟩
  intro c q hq
  match c, hq with
  | 0, hq => exact key C_FP q hq
  | 1, hq => exact key C_BY q hq
  | 2, hq => exact key C_BR q hq
  | 3, hq => exact key C_LI q hq
  | 4, hq => exact key C_CT q hq
  | 5, hq => exact key C_TG q hq
  | 6, hq => exact key C_PL q hq
  | 7, hq => exact key C_RU q hq
  | 8, hq => exact key C_TA q hq
  | 9, hq => exact key C_FX q hq
  | 10, hq => exact key C_PI q hq
  | 11, hq => exact key C_MO q hq
  | c + 12, hq => exact absurd hq (by
      have : fx_cl.length = 12 := by decide
      rw [List.getElem?_eq_none (by omega)]
      simp)
theorem ws_a {args : Array Value} {s : State} {ty : FieldType} (h : (Cond.arrayClass ty).before args s = true) : ∃ c, ArrOfT s c ty ∧ s.vm.findClass ("[" ++ ty.toString) = some c := by
  obtain ⟨c, k, comp, h1, h2, h3⟩ := Cond.arrayClass_spec h
  exact ⟨c, fun n z => ⟨fun k h => (by cases h), k, h2, comp, h3⟩, h1⟩
theorem ws_K {args : Array Value} {s : State} (hts : ∀ w ∈ fx_tb, w.before args s = true) : ∃ (D : va_G) (g : ClassId × ClassId × ClassId), va_K D fx_cl (fx_ty g) s := by
  have h : ∀ c : Nat, ∃ (cC : ClassId) (iS : Nat → Nat), ∀ q : vw_C, fx_cl[c]? = some q → u_Kn s q.1 q.2.1 q.2.2 cC iS := by
    intro c
    cases hq : fx_cl[c]? with
    | none => exact ⟨0, fun _ => 0, fun q h => by cases h⟩
    | some q =>
      obtain ⟨h1, n, h2⟩ := ws_c c q hq
      obtain ⟨cC, iS, hk⟩ := u_known hts h1 (hts _ h2)
      exact ⟨cC, iS, fun q2 h3 => by cases h3; exact hk⟩
  obtain ⟨g1, a1, b1⟩ := ws_a (hts _ ac_int)
  obtain ⟨g2, a2, b2⟩ := ws_a (hts _ ac_boolean)
  obtain ⟨g3, a3, b3⟩ := ws_a (hts _ ac_long)
  refine ⟨(fun c => Classical.choose (h c), fun c => Classical.choose (Classical.choose_spec (h c))), (g1, g2, g3), fun c q hq => Classical.choose_spec (Classical.choose_spec (h c)) q hq, fun k q hq => ?_⟩
  match k, hq with
  | 0, hq => cases hq; exact ⟨a1, b1⟩
  | 1, hq => cases hq; exact ⟨a2, b2⟩
  | 2, hq => cases hq; exact ⟨a3, b3⟩
  | k + 3, hq => exact absurd hq (by simp)
