/-! the law's entry -/
theorem ws_z {b : Nat} {s : State} (hg : (Cond.and given_1 narrow_1).before #[Value.ref b] s = true) (hts : ∀ w ∈ lw_tbl, w.before #[Value.ref b] s = true) : fx_zs s := by
  have hs := flat_of_before _ hg
  have hw : ∀ (i : Nat) (w : Cond), tables_1[i]? = some w → w.before #[Value.ref b] s = true := fun i w h => hts w (List.mem_append_right _ (List.mem_of_getElem? h))
  have h4 : ∀ w ∈ fx_zw, w.before #[Value.ref b] s = true := by
    intro w hw2
    simp only [fx_zw, List.mem_cons, List.not_mem_nil, or_false] at hw2
    rcases hw2 with rfl | rfl | rfl | rfl
    · exact hw 652 _ (by decide +kernel)
    · exact hw 654 _ (by decide +kernel)
    · exact hs _ (by decide +kernel)
    · exact hs _ (by decide +kernel)
  have hn : ∀ (X Y : String) (i j n1 n2 : Nat), tables_1[i]? = some (.instantiable X n1) → tables_1[j]? = some (.instantiable Y n2) → Cond.not (.castable X Y) ∈ flatC (Cond.and given_1 narrow_1) → ∃ cX cY : ClassId, s.vm.findClass X = some cX ∧ s.vm.findClass Y = some cY ∧ s.vm.assignable cX cY = false := by
    intro X Y i j n1 n2 h1 h2 h3
    obtain ⟨cX, kX, e1, -⟩ := Cond.instantiable_spec (hw i _ h1)
    obtain ⟨cY, kY, e2, -⟩ := Cond.instantiable_spec (hw j _ h2)
    have hv := Cond.holds_not_iff.mp (hs _ h3)
    simp only [Cond.value, e1, e2] at hv
    exact ⟨cX, cY, e1, e2, Option.some.inj hv⟩
  refine ⟨fun w hw2 a => Cond.rideK (State.WarmedH.refl s) (fun y cy hy _ => hy) (a := #[Value.ref b]) w ?_ (h4 w hw2), fun q hq => ?_⟩
  · have : fx_zw.all Cond.ridesK = true := by decide +kernel
    exact List.all_eq_true.mp this w hw2
  · simp only [fx_zn, List.mem_cons, List.not_mem_nil, or_false] at hq
    rcases hq with rfl | rfl
    · exact hn _ _ 626 697 6 6 (by decide +kernel) (by decide +kernel) (by decide +kernel)
    · exact hn _ _ 722 626 6 6 (by decide +kernel) (by decide +kernel) (by decide +kernel)
theorem ws_S {b : Nat} {s : State} (hg : (Cond.and given_1 narrow_1).before #[Value.ref b] s = true) (hts : ∀ w ∈ lw_tbl, w.before #[Value.ref b] s = true) : ∃ tb : Nat → Nat, tb 2000 = b ∧ fx_St tb (fun q => s.heap.size ≤ q) s s.heap := by
  have hs := flat_of_before _ hg
  have hw : ∀ (i : Nat) (w : Cond), tables_1[i]? = some w → w.before #[Value.ref b] s = true := fun i w h => hts w (List.mem_append_right _ (List.mem_of_getElem? h))
  have hA : ∀ a : Nat, a < s.heap.size → ¬ s.heap.size ≤ a := fun a h => by omega
  have h : ∀ k : Nat, ∃ t : Nat, ∀ q : String × Nat × (Nat → Int), fx_tabs[k]? = some q → va_Z "FaxPages" q.1 "[I" (.ref t) (fun q => s.heap.size ≤ q) s s.heap ∧ va_T .int t q.2.1 (fun j => .int (zI (q.2.2 j))) (fun q => s.heap.size ≤ q) s s.heap := by
    intro k
    cases hq : fx_tabs[k]? with
    | none => exact ⟨0, fun q h => by cases h⟩
    | some q =>
      obtain ⟨t, h1⟩ := ws_T hg hts k q hq
      exact ⟨t, fun q2 h2 => by cases h2; exact h1⟩
  obtain ⟨tf, htf⟩ := Classical.skolem.mp h
  refine ⟨fun n => if n = 2000 then b else tf (n - 1000), if_pos rfl, fun k q hq => ?_, va_Zqof (hw 652 _ (by decide +kernel)) (hw 14 _ (by decide +kernel)) (hs _ (by decide +kernel)) hA, va_Zqof (hw 654 _ (by decide +kernel)) (hw 14 _ (by decide +kernel)) (hs _ (by decide +kernel)) hA⟩
  have hk : k < 4 := (List.getElem?_eq_some_iff.mp hq).1
  have e : (if 1000 + k = 2000 then b else tf (1000 + k - 1000)) = tf k := by
    rw [if_neg (by omega), Nat.add_sub_cancel_left]
  show va_Z "FaxPages" q.1 "[I" (.ref (if 1000 + k = 2000 then b else tf (1000 + k - 1000))) _ s s.heap ∧ va_T .int (if 1000 + k = 2000 then b else tf (1000 + k - 1000)) _ _ _ s s.heap
  rw [e]
  exact htf k q hq
theorem law_W {p : Program} {l : Launch} {e : Env} {R : Room} {s : State} {m : MethodId} {below : List Frame} {meth : Method} {c : Code} {b Ls : Nat} {xs : Nat → Int32} {QQ : State → Prop} (htl : l.stackTraces = false) (hL : Ls ≤ 2048) (hx : p.tables.exec = Jvm.exec) (hb : c.code = M_LW_law.2.1) (hml : c.maxLocals = 7) (hown : s.vm.findClass "FaxPagesLaw" = some m.cls) (hnm : meth.name = "law") (hts : ∀ w ∈ lw_tbl, w.before #[Value.ref b] s = true) (hX : va_X b Ls xs s s.heap) (hbl : b < s.heap.size) (hg : (Cond.and given_1 narrow_1).before #[Value.ref b] s = true) (hR : 8 ≤ R.frames ∧ 196 ≤ R.locals ∧ 601024 ≤ R.cells ∧ 7293034 ≤ R.slots)
    (hend : ∀ (H : Heap) (pc : Nat) (la : Array Slot), decode M_LW_law.2.1 pc = .ok (.ireturn, 1) → W p l e R s m #[Value.ref b] below meth c H [] 601024 7293034 QQ (F0 m pc la [.int (zI 1)])) :
    W p l e R s m #[Value.ref b] below meth c s.heap [] 0 0 QQ (entryFrame m ([Value.ref b] : List Value).toArray 7) := by
  have htb : ∀ w ∈ fx_tb, w.before #[Value.ref b] s = true := fun w hw => hts w (List.mem_filter.mp hw).1
  obtain ⟨D, g, hK⟩ := ws_K htb
  obtain ⟨tb, e2000, hSt⟩ := ws_S hg hts
  have hvs : [Value.ref 2000].map (fx_cv tb ([] : fx_S)) = [Value.ref b] := by
    show [Value.ref (tb 2000)] = _
    rw [e2000]
  have hl := lv_entry ([Value.ref 2000].map (fx_cv tb ([] : fx_S))) (n := 7) (by rw [fx_sl_len _ (fx_cv_cat tb _)]; decide)
  rw [← hvs, lg_entry_eq, hvs]
  rw [hvs] at hl
  refine law_begin hL htl p e R s m _ below meth c (fun q => s.heap.size ≤ q) D g tb [] QQ ⟨hx, hb, hml, hown, htb, hK, fun q h => h, hSt, hR, hnm, fun w hw => va_Nw.of (fx_isx_tab (List.mem_filter.mp hw).2) (hts w (List.mem_filter.mp hw).1)⟩ ⟨e2000, hX, hbl, fun q h => h, ws_z hg hts, hend⟩ s.heap [] _ ⟨fun k q h => by simp [fx_ws] at h, ⟨fun i j p q h => by simp [fx_ws] at h, fun k q h => by simp [fx_ws] at h⟩, by decide⟩ va_S.rf (fx_g_rf _) ?_
  refine fx_has_L hl fun i v hi => ?_
  have h9 := fx_en_at (fx_cv_cat tb ([] : fx_S)) [Value.ref 2000] 0 6 i v hi
  rw [hvs] at h9
  simpa using h9
