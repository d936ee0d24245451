theorem ws_m0 : ∀ j : Nat, j < 9 → Cond.eq (.elem (.static "FaxPages" "NUMBERS" "[I") (.int (Int32.ofNat j))) (.int (zI (fx_tNU.getD j 0))) ∈ flatC (Cond.and given_1 narrow_1) := by decide +kernel
theorem ws_m1 : ∀ j : Nat, j < 41 → Cond.eq (.elem (.static "FaxPages" "WHITE_RUNS" "[I") (.int (Int32.ofNat j))) (.int (zI (fx_tWR.getD j 0))) ∈ flatC (Cond.and given_1 narrow_1) := by decide +kernel
theorem ws_m2 : ∀ j : Nat, j < 41 → Cond.eq (.elem (.static "FaxPages" "BLACK_RUNS" "[I") (.int (Int32.ofNat j))) (.int (zI (fx_tBL.getD j 0))) ∈ flatC (Cond.and given_1 narrow_1) := by decide +kernel
theorem ws_m3 : ∀ j : Nat, j < 9 → Cond.eq (.elem (.static "FaxPages" "MODES" "[I") (.int (Int32.ofNat j))) (.int (zI (fx_tMD.getD j 0))) ∈ flatC (Cond.and given_1 narrow_1) := by decide +kernel
/-! the statics where the law begins -/
theorem ws_T {b : Nat} {s : State} (hg : (Cond.and given_1 narrow_1).before #[Value.ref b] s = true) (hts : ∀ w ∈ lw_tbl, w.before #[Value.ref b] s = true) : ∀ (k : Nat) (q : String × Nat × (Nat → Int)), fx_tabs[k]? = some q → ∃ t : Nat, va_Z "FaxPages" q.1 "[I" (.ref t) (fun q => s.heap.size ≤ q) s s.heap ∧ va_T .int t q.2.1 (fun j => .int (zI (q.2.2 j))) (fun q => s.heap.size ≤ q) s s.heap := by
  have hs := flat_of_before _ hg
  have hw : ∀ (i : Nat) (w : Cond), tables_1[i]? = some w → w.before #[Value.ref b] s = true := fun i w h => hts w (List.mem_append_right _ (List.mem_of_getElem? h))
  have hA : ∀ a : Nat, a < s.heap.size → ¬ s.heap.size ≤ a := fun a h => by omega
  have key : ∀ (nm : String) (N : Nat) (f : Nat → Int), N < 2 ^ 31 → (Cond.arrayOf (.static "FaxPages" nm "[I") .int).before #[Value.ref b] s = true → (Cond.eq (.length (.static "FaxPages" nm "[I")) (.int (Int32.ofNat N))).before #[Value.ref b] s = true → (∀ j : Nat, j < N → (Cond.eq (.elem (.static "FaxPages" nm "[I") (.int (Int32.ofNat j))) (.int (zI (f j)))).before #[Value.ref b] s = true) → (Cond.laysStatic "FaxPages" nm "[I").before #[Value.ref b] s = true →
      ∃ t : Nat, va_Z "FaxPages" nm "[I" (.ref t) (fun q => s.heap.size ≤ q) s s.heap ∧ va_T .int t N (fun j => .int (zI (f j))) (fun q => s.heap.size ≤ q) s s.heap := by
    intro nm N f hN h1 h2 h3 h4
    obtain ⟨t, e1, e2⟩ := va_Tof (f := fun j => .int (zI (f j))) hN h1 (Cond.eq_int h2 rfl) (fun j hj => Cond.eq_int (h3 j hj) rfl) hA
    exact ⟨t, va_Zof h4 (hw 1 _ (by decide +kernel)) e1 hA, e2⟩
  intro k q hq
  match k, hq with
  | 0, hq =>
    cases hq
    exact key "NUMBERS" 9 (fun j => fx_tNU.getD j 0) (by decide) (hs _ (by decide +kernel)) (hs _ (by decide +kernel)) (fun j hj => hs _ (ws_m0 j hj)) (hw 119 _ (by decide +kernel))
  | 1, hq =>
    cases hq
    exact key "WHITE_RUNS" 41 (fun j => fx_tWR.getD j 0) (by decide) (hs _ (by decide +kernel)) (hs _ (by decide +kernel)) (fun j hj => hs _ (ws_m1 j hj)) (hw 77 _ (by decide +kernel))
  | 2, hq =>
    cases hq
    exact key "BLACK_RUNS" 41 (fun j => fx_tBL.getD j 0) (by decide) (hs _ (by decide +kernel)) (hs _ (by decide +kernel)) (fun j hj => hs _ (ws_m2 j hj)) (hw 93 _ (by decide +kernel))
  | 3, hq =>
    cases hq
    exact key "MODES" 9 (fun j => fx_tMD.getD j 0) (by decide) (hs _ (by decide +kernel)) (hs _ (by decide +kernel)) (fun j hj => hs _ (ws_m3 j hj)) (hw 95 _ (by decide +kernel))
  | k + 4, hq => exact absurd hq (by
      have : fx_tabs.length = 4 := rfl
      rw [List.getElem?_eq_none (by omega)]
      simp)
