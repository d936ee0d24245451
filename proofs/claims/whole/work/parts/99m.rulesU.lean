/-! walks with an end of their own -/
abbrev fx_EE : Type := Program → Env → Room → State → MethodId → Array Value → List Frame → Method → Code → (Nat → Prop) → va_G → ClassId × ClassId × ClassId → (Nat → Nat) → fx_S → (State → Prop) → Prop
def fx_U (l : Launch) (M : fx_M) (B : Nat × Nat) (Q : fx_EE) (c0 s0 pc : Nat) (ls : List (Option Value)) (st : List Value) (h : fx_H) : Prop :=
  ∀ (p : Program) (e : Env) (R : Room) (s : State) (m : MethodId) (args : Array Value) (below : List Frame) (meth : Method) (c : Code) (A : Nat → Prop) (D : va_G) (g : ClassId × ClassId × ClassId) (tb : Nat → Nat) (S0 : fx_S) (QQ : State → Prop),
    fx_X M B p R s m args meth c A D g tb → Q p e R s m args below meth c A D g tb S0 QQ → ∀ (H : Heap) (locs : List Loc) (la : Array Slot),
    fx_P D g tb A h H → va_S A s.heap H locs → fx_g S0 c0 h.1 → fx_L (fx_cv tb h.1) la M.2.2.1 ls →
    W p l e R s m args below meth c H locs c0 s0 QQ (F0 m pc la (st.map (fx_cv tb h.1)))
section FYR
variable {l : Launch} {M M' : fx_M} {B B' : Nat × Nat} {Q : fx_EE} {c0 s0 c1 s1 pc n ix np : Nat} {ls ls2 : List (Option Value)} {st rest vs : List Value} {h : fx_H}
theorem fy_iload_n {z : Fin 4} {i : Nat} {x : Int32} (d : decode M.2.1 pc = .ok (.iload_n z, 1)) (hi : (z : Nat) = i) (hx : ls[i]? = some (some (.int x))) (k : fx_U l M B Q c0 s0 n ls (.int x :: rest) h) (hn : pc + 1 = n := by rfl) : fx_U l M B Q c0 s0 pc ls (rest) h := by
  subst hn
  intro p e R s m args below meth c A D g tb S0 QQ hX hE H locs la hP hS hG hL
  exact lv_iload_n hX.1 hX.2.1 d hi (hL.2.2 i (.int x) hx) (k p e R s m args below meth c A D g tb S0 QQ hX hE H locs la hP hS hG hL)
theorem fy_iload {i : Nat} {x : Int32} (d : decode M.2.1 pc = .ok (.iload i, 2)) (hx : ls[i]? = some (some (.int x))) (k : fx_U l M B Q c0 s0 n ls (.int x :: rest) h) (hn : pc + 2 = n := by rfl) : fx_U l M B Q c0 s0 pc ls (rest) h := by
  subst hn
  intro p e R s m args below meth c A D g tb S0 QQ hX hE H locs la hP hS hG hL
  exact lv_iload hX.1 hX.2.1 d (hL.2.2 i (.int x) hx) (k p e R s m args below meth c A D g tb S0 QQ hX hE H locs la hP hS hG hL)
theorem fy_aload_n {z : Fin 4} {i x : Nat} (d : decode M.2.1 pc = .ok (.aload_n z, 1)) (hi : (z : Nat) = i) (hx : ls[i]? = some (some (.ref x))) (k : fx_U l M B Q c0 s0 n ls (.ref x :: rest) h) (hn : pc + 1 = n := by rfl) : fx_U l M B Q c0 s0 pc ls (rest) h := by
  subst hn
  intro p e R s m args below meth c A D g tb S0 QQ hX hE H locs la hP hS hG hL
  exact lv_aload_n hX.1 hX.2.1 d hi (hL.2.2 i (.ref x) hx) (k p e R s m args below meth c A D g tb S0 QQ hX hE H locs la hP hS hG hL)
theorem fy_iconst {z : Int} (d : decode M.2.1 pc = .ok (.iconst z, 1)) (k : fx_U l M B Q c0 s0 n ls (.int (zI z) :: rest) h) (hn : pc + 1 = n := by rfl) : fx_U l M B Q c0 s0 pc ls (rest) h := by
  subst hn
  intro p e R s m args below meth c A D g tb S0 QQ hX hE H locs la hP hS hG hL
  exact lv_iconst hX.1 hX.2.1 d rfl (k p e R s m args below meth c A D g tb S0 QQ hX hE H locs la hP hS hG hL)
theorem fy_sipush {z v : Int} (d : decode M.2.1 pc = .ok (.sipush z, 3)) (hv : (Int16.ofInt z).toInt32 = zI v) (k : fx_U l M B Q c0 s0 n ls (.int (zI v) :: rest) h) (hn : pc + 3 = n := by rfl) : fx_U l M B Q c0 s0 pc ls (rest) h := by
  subst hn
  intro p e R s m args below meth c A D g tb S0 QQ hX hE H locs la hP hS hG hL
  exact lv_sipush hX.1 hX.2.1 d hv (k p e R s m args below meth c A D g tb S0 QQ hX hE H locs la hP hS hG hL)
theorem fy_bipush {z v : Int} (d : decode M.2.1 pc = .ok (.bipush z, 2)) (hv : (Int8.ofInt z).toInt32 = zI v) (k : fx_U l M B Q c0 s0 n ls (.int (zI v) :: rest) h) (hn : pc + 2 = n := by rfl) : fx_U l M B Q c0 s0 pc ls (rest) h := by
  subst hn
  intro p e R s m args below meth c A D g tb S0 QQ hX hE H locs la hP hS hG hL
  exact lv_bipush hX.1 hX.2.1 d hv (k p e R s m args below meth c A D g tb S0 QQ hX hE H locs la hP hS hG hL)
theorem fy_if_ge {a : Int} {off : Int} {t : Nat} (d : decode M.2.1 pc = .ok (.ifCond .ge off, 3)) (ha : zR a) (kt : 0 ≤ a → fx_U l M B Q c0 s0 t ls rest h) (kf : ¬ 0 ≤ a → fx_U l M B Q c0 s0 n ls rest h) (ht : (pc : Int) + off = (t : Int) := by rfl) (hn : pc + 3 = n := by rfl) : fx_U l M B Q c0 s0 pc ls (.int (zI a) :: rest) h := by
  subst hn
  intro p e R s m args below meth c A D g tb S0 QQ hX hE H locs la hP hS hG hL
  exact lv_if_ge hX.1 hX.2.1 d ht (fun z => kt ((zI_le zR_0 ha).mp z) p e R s m args below meth c A D g tb S0 QQ hX hE H locs la hP hS hG hL) (fun z => kf (fun y => z ((zI_le zR_0 ha).mpr y)) p e R s m args below meth c A D g tb S0 QQ hX hE H locs la hP hS hG hL)
theorem fy_if_ne {a : Int} {off : Int} {t : Nat} (d : decode M.2.1 pc = .ok (.ifCond .ne off, 3)) (ha : zR a) (kt : ¬ a = 0 → fx_U l M B Q c0 s0 t ls rest h) (kf : a = 0 → fx_U l M B Q c0 s0 n ls rest h) (ht : (pc : Int) + off = (t : Int) := by rfl) (hn : pc + 3 = n := by rfl) : fx_U l M B Q c0 s0 pc ls (.int (zI a) :: rest) h := by
  subst hn
  intro p e R s m args below meth c A D g tb S0 QQ hX hE H locs la hP hS hG hL
  exact lv_if_ne hX.1 hX.2.1 d ht (fun z => kt (fun y => z ((zI_eq ha zR_0).mpr y)) p e R s m args below meth c A D g tb S0 QQ hX hE H locs la hP hS hG hL) (fun z => kf ((zI_eq ha zR_0).mp z) p e R s m args below meth c A D g tb S0 QQ hX hE H locs la hP hS hG hL)
theorem fy_if_eq {a : Int} {off : Int} {t : Nat} (d : decode M.2.1 pc = .ok (.ifCond .eq off, 3)) (ha : zR a) (kt : a = 0 → fx_U l M B Q c0 s0 t ls rest h) (kf : ¬ a = 0 → fx_U l M B Q c0 s0 n ls rest h) (ht : (pc : Int) + off = (t : Int) := by rfl) (hn : pc + 3 = n := by rfl) : fx_U l M B Q c0 s0 pc ls (.int (zI a) :: rest) h := by
  subst hn
  intro p e R s m args below meth c A D g tb S0 QQ hX hE H locs la hP hS hG hL
  exact lv_if_eq hX.1 hX.2.1 d ht (fun z => kt ((zI_eq ha zR_0).mp z) p e R s m args below meth c A D g tb S0 QQ hX hE H locs la hP hS hG hL) (fun z => kf (fun y => z ((zI_eq ha zR_0).mpr y)) p e R s m args below meth c A D g tb S0 QQ hX hE H locs la hP hS hG hL)
theorem fy_if_lt {a : Int} {off : Int} {t : Nat} (d : decode M.2.1 pc = .ok (.ifCond .lt off, 3)) (ha : zR a) (kt : a < 0 → fx_U l M B Q c0 s0 t ls rest h) (kf : ¬ a < 0 → fx_U l M B Q c0 s0 n ls rest h) (ht : (pc : Int) + off = (t : Int) := by rfl) (hn : pc + 3 = n := by rfl) : fx_U l M B Q c0 s0 pc ls (.int (zI a) :: rest) h := by
  subst hn
  intro p e R s m args below meth c A D g tb S0 QQ hX hE H locs la hP hS hG hL
  exact lv_if_lt hX.1 hX.2.1 d ht (fun z => kt ((zI_lt ha zR_0).mp z) p e R s m args below meth c A D g tb S0 QQ hX hE H locs la hP hS hG hL) (fun z => kf (fun y => z ((zI_lt ha zR_0).mpr y)) p e R s m args below meth c A D g tb S0 QQ hX hE H locs la hP hS hG hL)
theorem fy_icmp_le {a b : Int} {off : Int} {t : Nat} (d : decode M.2.1 pc = .ok (.if_icmp .le off, 3)) (ha : zR a) (hb : zR b) (kt : a ≤ b → fx_U l M B Q c0 s0 t ls rest h) (kf : ¬ a ≤ b → fx_U l M B Q c0 s0 n ls rest h) (ht : (pc : Int) + off = (t : Int) := by rfl) (hn : pc + 3 = n := by rfl) : fx_U l M B Q c0 s0 pc ls (.int (zI b) :: .int (zI a) :: rest) h := by
  subst hn
  intro p e R s m args below meth c A D g tb S0 QQ hX hE H locs la hP hS hG hL
  exact lv_icmp_le hX.1 hX.2.1 d ht (fun z => kt ((zI_le ha hb).mp z) p e R s m args below meth c A D g tb S0 QQ hX hE H locs la hP hS hG hL) (fun z => kf (fun y => z ((zI_le ha hb).mpr y)) p e R s m args below meth c A D g tb S0 QQ hX hE H locs la hP hS hG hL)
theorem fy_icmp_lt {a b : Int} {off : Int} {t : Nat} (d : decode M.2.1 pc = .ok (.if_icmp .lt off, 3)) (ha : zR a) (hb : zR b) (kt : a < b → fx_U l M B Q c0 s0 t ls rest h) (kf : ¬ a < b → fx_U l M B Q c0 s0 n ls rest h) (ht : (pc : Int) + off = (t : Int) := by rfl) (hn : pc + 3 = n := by rfl) : fx_U l M B Q c0 s0 pc ls (.int (zI b) :: .int (zI a) :: rest) h := by
  subst hn
  intro p e R s m args below meth c A D g tb S0 QQ hX hE H locs la hP hS hG hL
  exact lv_icmp_lt hX.1 hX.2.1 d ht (fun z => kt ((zI_lt ha hb).mp z) p e R s m args below meth c A D g tb S0 QQ hX hE H locs la hP hS hG hL) (fun z => kf (fun y => z ((zI_lt ha hb).mpr y)) p e R s m args below meth c A D g tb S0 QQ hX hE H locs la hP hS hG hL)
theorem fy_icmp_gt {a b : Int} {off : Int} {t : Nat} (d : decode M.2.1 pc = .ok (.if_icmp .gt off, 3)) (ha : zR a) (hb : zR b) (kt : b < a → fx_U l M B Q c0 s0 t ls rest h) (kf : ¬ b < a → fx_U l M B Q c0 s0 n ls rest h) (ht : (pc : Int) + off = (t : Int) := by rfl) (hn : pc + 3 = n := by rfl) : fx_U l M B Q c0 s0 pc ls (.int (zI b) :: .int (zI a) :: rest) h := by
  subst hn
  intro p e R s m args below meth c A D g tb S0 QQ hX hE H locs la hP hS hG hL
  exact lv_icmp_gt hX.1 hX.2.1 d ht (fun z => kt ((zI_lt hb ha).mp z) p e R s m args below meth c A D g tb S0 QQ hX hE H locs la hP hS hG hL) (fun z => kf (fun y => z ((zI_lt hb ha).mpr y)) p e R s m args below meth c A D g tb S0 QQ hX hE H locs la hP hS hG hL)
theorem fy_icmp_ge {a b : Int} {off : Int} {t : Nat} (d : decode M.2.1 pc = .ok (.if_icmp .ge off, 3)) (ha : zR a) (hb : zR b) (kt : b ≤ a → fx_U l M B Q c0 s0 t ls rest h) (kf : ¬ b ≤ a → fx_U l M B Q c0 s0 n ls rest h) (ht : (pc : Int) + off = (t : Int) := by rfl) (hn : pc + 3 = n := by rfl) : fx_U l M B Q c0 s0 pc ls (.int (zI b) :: .int (zI a) :: rest) h := by
  subst hn
  intro p e R s m args below meth c A D g tb S0 QQ hX hE H locs la hP hS hG hL
  exact lv_icmp_ge hX.1 hX.2.1 d ht (fun z => kt ((zI_le hb ha).mp z) p e R s m args below meth c A D g tb S0 QQ hX hE H locs la hP hS hG hL) (fun z => kf (fun y => z ((zI_le hb ha).mpr y)) p e R s m args below meth c A D g tb S0 QQ hX hE H locs la hP hS hG hL)
theorem fy_icmp_ne {a b : Int} {off : Int} {t : Nat} (d : decode M.2.1 pc = .ok (.if_icmp .ne off, 3)) (ha : zR a) (hb : zR b) (kt : ¬ a = b → fx_U l M B Q c0 s0 t ls rest h) (kf : a = b → fx_U l M B Q c0 s0 n ls rest h) (ht : (pc : Int) + off = (t : Int) := by rfl) (hn : pc + 3 = n := by rfl) : fx_U l M B Q c0 s0 pc ls (.int (zI b) :: .int (zI a) :: rest) h := by
  subst hn
  intro p e R s m args below meth c A D g tb S0 QQ hX hE H locs la hP hS hG hL
  exact lv_icmp_ne hX.1 hX.2.1 d ht (fun z => kt (fun y => z ((zI_eq ha hb).mpr y)) p e R s m args below meth c A D g tb S0 QQ hX hE H locs la hP hS hG hL) (fun z => kf ((zI_eq ha hb).mp z) p e R s m args below meth c A D g tb S0 QQ hX hE H locs la hP hS hG hL)
theorem fy_icmp_eq {a b : Int} {off : Int} {t : Nat} (d : decode M.2.1 pc = .ok (.if_icmp .eq off, 3)) (ha : zR a) (hb : zR b) (kt : a = b → fx_U l M B Q c0 s0 t ls rest h) (kf : ¬ a = b → fx_U l M B Q c0 s0 n ls rest h) (ht : (pc : Int) + off = (t : Int) := by rfl) (hn : pc + 3 = n := by rfl) : fx_U l M B Q c0 s0 pc ls (.int (zI b) :: .int (zI a) :: rest) h := by
  subst hn
  intro p e R s m args below meth c A D g tb S0 QQ hX hE H locs la hP hS hG hL
  exact lv_icmp_eq hX.1 hX.2.1 d ht (fun z => kt ((zI_eq ha hb).mp z) p e R s m args below meth c A D g tb S0 QQ hX hE H locs la hP hS hG hL) (fun z => kf (fun y => z ((zI_eq ha hb).mpr y)) p e R s m args below meth c A D g tb S0 QQ hX hE H locs la hP hS hG hL)
theorem fy_goto {off : Int} (d : decode M.2.1 pc = .ok (.goto off, 3)) (k : fx_U l M B Q c0 s0 n ls st h) (ht : (pc : Int) + off = (n : Int) := by rfl) : fx_U l M B Q c0 s0 pc ls st h := by
  intro p e R s m args below meth c A D g tb S0 QQ hX hE H locs la hP hS hG hL
  exact lv_goto hX.1 hX.2.1 d ht (k p e R s m args below meth c A D g tb S0 QQ hX hE H locs la hP hS hG hL)
theorem fy_istore_n {z : Fin 4} {i : Nat} {x : Int32} (d : decode M.2.1 pc = .ok (.istore_n z, 1)) (hi : (z : Nat) = i) (hb : i < M.2.2.1) (hs : fx_s1 i (.int x) ls = ls2) (k : fx_U l M B Q c0 s0 n ls2 rest h) (hn : pc + 1 = n := by rfl) : fx_U l M B Q c0 s0 pc ls (.int x :: rest) h := by
  subst hn
  subst hs
  intro p e R s m args below meth c A D g tb S0 QQ hX hE H locs la hP hS hG hL
  exact lv_istore_n hX.1 hX.2.1 d hi (fx_L_has hL) hb rfl (fun la2 h2 => k p e R s m args below meth c A D g tb S0 QQ hX hE H locs la2 hP hS hG (fx_L_s1 (v := .int x) (fx_cv_cat tb h.1) h2))
theorem fy_istore {i : Nat} {x : Int32} (d : decode M.2.1 pc = .ok (.istore i, 2)) (hb : i < M.2.2.1) (hs : fx_s1 i (.int x) ls = ls2) (k : fx_U l M B Q c0 s0 n ls2 rest h) (hn : pc + 2 = n := by rfl) : fx_U l M B Q c0 s0 pc ls (.int x :: rest) h := by
  subst hn
  subst hs
  intro p e R s m args below meth c A D g tb S0 QQ hX hE H locs la hP hS hG hL
  exact lv_istore hX.1 hX.2.1 d (fx_L_has hL) hb rfl (fun la2 h2 => k p e R s m args below meth c A D g tb S0 QQ hX hE H locs la2 hP hS hG (fx_L_s1 (v := .int x) (fx_cv_cat tb h.1) h2))
theorem fy_i2l {a : Int} (d : decode M.2.1 pc = .ok (.i2l, 1)) (ha : zR a) (k : fx_U l M B Q c0 s0 n ls (.long (zL a) :: rest) h) (hn : pc + 1 = n := by rfl) : fx_U l M B Q c0 s0 pc ls (.int (zI a) :: rest) h := by
  subst hn
  intro p e R s m args below meth c A D g tb S0 QQ hX hE H locs la hP hS hG hL
  have k2 := (k p e R s m args below meth c A D g tb S0 QQ hX hE H locs la hP hS hG hL)
  rw [List.map_cons] at k2
  have hz : fx_cv tb h.1 (.long (zL a)) = .long (zL a) := rfl
  rw [hz, ← zI_i2l ha] at k2
  exact lv_i2l hX.1 hX.2.1 d rfl k2
theorem fy_getR {p0 j ci a ix : Nat} {rs : List (Option Nat)} {ty0 : FieldType} {fin nst : Bool} {q : Nat} (d : decode M.2.1 pc = .ok (.getfield ix, 3)) (hl : fx_lk M.1.cls ix ci j ty0 fin nst) (hq : h.1[p0]? = some (a, .inl (ci, rs))) (hi : fx_kd ci j = true) (hr : rs.getD j none = some q) (k : fx_U l M B Q c0 s0 n ls (.ref q :: rest) h) (hn : pc + 3 = n := by rfl) : fx_U l M B Q c0 s0 pc ls (.ref p0 :: rest) h := by
  subst hn
  intro p e R s m args below meth c A D g tb S0 QQ hX hE H locs la hP hS hG hL
  obtain ⟨hx, hb, hml, hown, hts, hK, hA, hSt, hRm, hnm, hxw⟩ := id hX
  obtain ⟨C, T, N, ty, ⟨c1, c2, c3, c4, c5, -⟩, hk, -, -, -, hw⟩ := hl
  have he := fx_ws_at (g := g) (tb := tb) hq
  have hv : (fx_ob tb h.1 (h.2.1 p0) ci rs)[j]? = some (fx_cv tb h.1 (.ref q)) := by
    rw [fx_ob_at _ _ _ _ _ (by rw [c5]; exact hk)]
    simp only [fx_fv, hi, cond_true, hr, fx_cv]
  have k2 := (k p e R s m args below meth c A D g tb S0 QQ hX hE H locs la hP hS hG hL)
  have ha : fx_cv tb h.1 (.ref p0) = .ref a := by simp only [fx_cv, fx_ad_at hq]
  rw [List.map_cons] at k2 ⊢
  rw [ha]
  rcases hw with ⟨-, hw⟩ | ⟨hz, host, hw⟩
  · exact va_get (D := D) (ci := ci) (C := C) (T := T) (N := N) hx hb hts c2 hown hK hP.1 p0 he c1 j hk (hts _ hw) (fun _ h9 => h9) hv d k2
  · exact va_getN (D := D) (ci := ci) (C := C) (T := T) (N := N) hx hb hts c2 hown hK hP.1 p0 he c1 j hk (va_Nw.use rfl (hxw _ hw)) (fun _ h9 => h9) hv d k2
theorem fy_getI {p0 j ci a ix : Nat} {rs : List (Option Nat)} {ty0 : FieldType} {fin nst : Bool} (d : decode M.2.1 pc = .ok (.getfield ix, 3)) (hl : fx_lk M.1.cls ix ci j ty0 fin nst) (hq : h.1[p0]? = some (a, .inl (ci, rs))) (hi : fx_kd ci j = false) (k : fx_U l M B Q c0 s0 n ls (.int (zI (h.2.1 p0 j)) :: rest) h) (hn : pc + 3 = n := by rfl) : fx_U l M B Q c0 s0 pc ls (.ref p0 :: rest) h := by
  subst hn
  intro p e R s m args below meth c A D g tb S0 QQ hX hE H locs la hP hS hG hL
  obtain ⟨hx, hb, hml, hown, hts, hK, hA, hSt, hRm, hnm, hxw⟩ := id hX
  obtain ⟨C, T, N, ty, ⟨c1, c2, c3, c4, c5, -⟩, hk, -, -, -, hw⟩ := hl
  have he := fx_ws_at (g := g) (tb := tb) hq
  have hv : (fx_ob tb h.1 (h.2.1 p0) ci rs)[j]? = some (fx_cv tb h.1 (.int (zI (h.2.1 p0 j)))) := by
    rw [fx_ob_at _ _ _ _ _ (by rw [c5]; exact hk)]
    simp only [fx_fv, hi, cond_false, fx_cv]
  have k2 := (k p e R s m args below meth c A D g tb S0 QQ hX hE H locs la hP hS hG hL)
  have ha : fx_cv tb h.1 (.ref p0) = .ref a := by simp only [fx_cv, fx_ad_at hq]
  rw [List.map_cons] at k2 ⊢
  rw [ha]
  rcases hw with ⟨-, hw⟩ | ⟨hz, host, hw⟩
  · exact va_get (D := D) (ci := ci) (C := C) (T := T) (N := N) hx hb hts c2 hown hK hP.1 p0 he c1 j hk (hts _ hw) (fun _ h9 => h9) hv d k2
  · exact va_getN (D := D) (ci := ci) (C := C) (T := T) (N := N) hx hb hts c2 hown hK hP.1 p0 he c1 j hk (va_Nw.use rfl (hxw _ hw)) (fun _ h9 => h9) hv d k2
theorem fy_core {l : Launch} {M : fx_M} {B B' : Nat × Nat} {Q : fx_EE} {Q' : Option Value → fx_H → Prop} {c0 s0 pc ln : Nat} {ls : List (Option Value)} {rest st0 : List Value} {h : fx_H} {a : Array Value}
    {p : Program} {e : Env} {R : Room} {s : State} {m : MethodId} {args : Array Value} {below : List Frame} {meth : Method} {c : Code} {A : Nat → Prop} {D : va_G} {g : ClassId × ClassId × ClassId} {tb : Nat → Nat} {S0 : fx_S} {QQ : State → Prop} {H : Heap} {locs : List Loc} {la : Array Slot}
    (hX : fx_X M B p R s m args meth c A D g tb) (hE : Q p e R s m args below meth c A D g tb S0 QQ) (hP : fx_P D g tb A h H) (hS : va_S A s.heap H locs) (hG : fx_g S0 c0 h.1) (hL : fx_L (fx_cv tb h.1) la M.2.2.1 ls)
    (hlv : B'.1 = 0 ∨ (fx_okl h.1.length ls = true ∧ rest.all (fx_okr h.1.length) = true))
    (hrun : fx_Run ln p l e R s m args below meth c H locs c0 s0 B'.1 B'.2 (F0 m pc la st0) (rest.map (fx_cv tb h.1)) (fx_Qc D g tb h H.size B' Q' a) (va_A (fx_ws g tb h) H.size))
    (k : ∀ v h2, Q' v h2 → fx_U l M B Q (c0 + B'.1) (s0 + B'.2) (pc + ln) ls (v.toList ++ rest) h2) :
    W p l e R s m args below meth c H locs c0 s0 QQ (F0 m pc la st0) := by
  obtain ⟨hx, hb, hml, hown, hts, hK, hA, hSt, hRm, hnm, hxw⟩ := id hX
  intro T hT X0
  obtain ⟨v, st₀, t, T', L, h0, X', hL', e1, e2, ⟨⟨v', h2, hv, hQ', hP2, hD2, hl2, hg2⟩, hz, hk⟩, st⟩ := hrun T hT X0
  cases hv
  rw [h0] at hz hk
  have hsub : ∀ q, va_A (fx_ws g tb h) H.size q → A q := by
    intro q hq
    rcases hq with ⟨j, e9, hj⟩ | hq
    · exact hP.2.1.2 j (q, e9) hj
    · exact hA q (Nat.le_trans hS.1 hq)
  have hcv : ∀ w : Value, (B'.1 = 0 ∨ fx_okr h.1.length w = true) → fx_cv tb h2.1 w = fx_cv tb h.1 w := fun w hw => fx_cv_pre tb hg2 hl2 hw
  have hP3 : fx_P D g tb A h2 T'.heap := ⟨by rw [e1]; exact hP2, hD2.weaken (fun j q _ hq => hsub q.1 hq), hl2⟩
  have hS3 : va_S A s.heap T'.heap (locs ++ L) := ⟨Nat.le_trans hS.1 (by rw [e1]; exact hz), fun q h1 h2 => by rw [e1, hk q (Nat.lt_of_lt_of_le h1 hS.1) (fun z => h2 (hsub q z))]; exact hS.2.1 q h1 h2, fun q hq => by
      rcases List.mem_append.mp hq with h | h
      · exact hS.2.2 q h
      · exact hsub _ (hL' q h)⟩
  have hL3 : fx_L (fx_cv tb h2.1) la M.2.2.1 ls := by
    refine ⟨hL.1, hL.2.1, fun i w hi => ?_⟩
    rw [hcv w]
    · exact hL.2.2 i w hi
    · rcases hlv with h | ⟨h, -⟩
      · exact Or.inl h
      · right
        have := List.all_eq_true.mp h (some w) (List.mem_of_getElem? hi)
        exact this
  have hR3 : rest.map (fx_cv tb h2.1) = rest.map (fx_cv tb h.1) := by
    refine List.map_congr_left fun w hw => hcv w ?_
    rcases hlv with h | ⟨-, h⟩
    · exact Or.inl h
    · exact Or.inr (List.all_eq_true.mp h w hw)
  obtain ⟨t2, a1, b1⟩ := k v' h2 hQ' p e R s m args below meth c A D g tb S0 QQ hX hE T'.heap (locs ++ L) la hP3 hS3 (fx_g_trans hG hg2) hL3 T' rfl X'
  refine ⟨t2, st t2 ?_, b1⟩
  have hst : (v'.toList ++ rest).map (fx_cv tb h2.1) = (v'.map (fx_cv tb h2.1)).toList ++ rest.map (fx_cv tb h.1) := by
    rw [List.map_append, hR3]
    cases v' <;> rfl
  rw [hst] at a1
  exact a1
theorem fy_callS (d : decode M.2.1 pc = .ok (.invokestatic ix, 3)) (hc : fx_cS M M' ix np) (hnp : vs.length = np) (hst : vs.reverse ++ rest = st) (hB : c0 + B'.1 ≤ B.1 ∧ s0 + B'.2 ≤ B.2) (hw : (rest.map fun v => v.category).sum ≤ 8) (hlv : B'.1 = 0 ∨ (fx_okl h.1.length ls = true ∧ rest.all (fx_okr h.1.length) = true)) (hM : fx_Mt l M' B' vs h (fun v h2 => fx_U l M B Q c1 s1 n ls (v.toList ++ rest) h2)) (hn : pc + 3 = n := by rfl) (hc1 : c0 + B'.1 = c1 := by rfl) (hs1 : s0 + B'.2 = s1 := by rfl) : fx_U l M B Q c0 s0 pc ls st h := by
  subst hn; subst hst; subst hc1; subst hs1
  intro p e R s m args below meth c A D g tb S0 QQ hX hE H locs la hP hS hG hL
  obtain ⟨hx, hb, hml, hown, hts, hK, hA, hSt, hRm, hnm, hxw⟩ := id hX
  obtain ⟨hcB, hstat, hw2⟩ := hc
  refine fy_core (ln := 3) (B' := B') (rest := rest) (a := (vs.map (fx_cv tb h.1)).toArray) hX hE hP hS hG hL hlv ?_ (fun v h2 hv => hv)
  rcases hw2 with hw2 | ⟨host, hw2⟩
  · exact va_runS (nL := M.2.2.1) (rest := rest.map (fx_cv tb h.1)) (As := vs.map (fx_cv tb h.1)) ⟨hx, hb, hml, hown, hts⟩ (hM D g tb H.size) ⟨fx_cbk (B' := B') hcB hts (hts _ hw2) ⟨hRm.1, hRm.2.1⟩, hts _ hstat⟩ (fx_pre (l := l) (Q := fun _ _ => True) (c0 := c0) hX hP hS) rfl (by rw [List.length_map]; exact hnp) hL.1 (by rw [List.map_append, List.map_reverse]) (fx_w8 hw) d ⟨Nat.le_trans hB.1 hRm.2.2.1, Nat.le_trans hB.2 hRm.2.2.2⟩
  · exact va_runSN (nL := M.2.2.1) (rest := rest.map (fx_cv tb h.1)) (As := vs.map (fx_cv tb h.1)) ⟨hx, hb, hml, hown, hts⟩ (hM D g tb H.size) ⟨fx_cnk (B' := B') hcB hts (hxw _ hw2) ⟨hRm.1, hRm.2.1⟩, hts _ hstat, trivial⟩ (fx_pre (l := l) (Q := fun _ _ => True) (c0 := c0) hX hP hS) rfl (by rw [List.length_map]; exact hnp) hL.1 (by rw [List.map_append, List.map_reverse]) (fx_w8 hw) d ⟨Nat.le_trans hB.1 hRm.2.2.1, Nat.le_trans hB.2 hRm.2.2.2⟩
theorem fy_callV {b0 a ci : Nat} {rs : List (Option Nat)} (d : decode M.2.1 pc = .ok (.invokevirtual ix, 3)) (hc : fx_cV M M' ix np) (hq : h.1[b0]? = some (a, .inl (ci, rs))) (hcl : (fx_cl[ci]?).map (fun q => q.1) = some M'.1.cls) (hnp : vs.length = np) (hst : vs.reverse ++ .ref b0 :: rest = st) (hB : c0 + B'.1 ≤ B.1 ∧ s0 + B'.2 ≤ B.2) (hw : (rest.map fun v => v.category).sum ≤ 8) (hlv : B'.1 = 0 ∨ (fx_okl h.1.length ls = true ∧ rest.all (fx_okr h.1.length) = true)) (hM : fx_Mt l M' B' (.ref b0 :: vs) h (fun v h2 => fx_U l M B Q c1 s1 n ls (v.toList ++ rest) h2)) (hn : pc + 3 = n := by rfl) (hc1 : c0 + B'.1 = c1 := by rfl) (hs1 : s0 + B'.2 = s1 := by rfl) : fx_U l M B Q c0 s0 pc ls st h := by
  subst hn; subst hst; subst hc1; subst hs1
  intro p e R s m args below meth c A D g tb S0 QQ hX hE H locs la hP hS hG hL
  obtain ⟨hx, hb, hml, hown, hts, hK, hA, hSt, hRm, hnm, hxw⟩ := id hX
  obtain ⟨hcB, hinst, hsel, hw2⟩ := hc
  have hr : ∃ cellB : Cell, H[a]? = some cellB ∧ cellB.vm.isStatics = false ∧ s.vm.findClass M'.1.cls = some cellB.cls := by
    cases hv : fx_cl[ci]? with
    | none => rw [hv] at hcl; cases hcl
    | some q =>
      rw [hv] at hcl
      have hq1 : q.1 = M'.1.cls := Option.some.inj hcl
      rw [← hq1]
      exact va_recv hK hP.1 hv (fx_ws_at (g := g) (tb := tb) hq)
  have ha : fx_cv tb h.1 (.ref b0) = .ref a := by simp only [fx_cv, fx_ad_at hq]
  have hpre := fx_pre (l := l) (Q := fun _ _ => True) (c0 := c0) (vs := .ref b0 :: vs) hX hP hS
  rw [List.map_cons, ha] at hpre
  have hM2 := hM D g tb H.size
  rw [List.map_cons, ha] at hM2
  have hstk : (vs.reverse ++ .ref b0 :: rest).map (fx_cv tb h.1) = (vs.map (fx_cv tb h.1)).reverse ++ .ref a :: rest.map (fx_cv tb h.1) := by
    rw [List.map_append, List.map_cons, ha, List.map_reverse]
  rw [hstk]
  refine fy_core (ln := 3) (B' := B') (rest := rest) (a := (Value.ref a :: vs.map (fx_cv tb h.1)).toArray) hX hE hP hS hG hL hlv ?_ (fun v h2 hv => hv)
  rcases hw2 with hw2 | ⟨host, hw2⟩
  · exact va_runV (C := M'.1.cls) (nL := M.2.2.1) (rest := rest.map (fx_cv tb h.1)) (As := vs.map (fx_cv tb h.1)) ⟨hx, hb, hml, hown, hts⟩ hM2 ⟨fx_cbk (B' := B') hcB hts (hts _ hw2) ⟨hRm.1, hRm.2.1⟩, hts _ hinst, hts _ hsel⟩ ⟨hpre.1, hr, hpre.2⟩ rfl (by rw [List.length_map]; exact hnp) hL.1 rfl (fx_w8 hw) d ⟨Nat.le_trans hB.1 hRm.2.2.1, Nat.le_trans hB.2 hRm.2.2.2⟩
  · exact va_runVN (C := M'.1.cls) (nL := M.2.2.1) (rest := rest.map (fx_cv tb h.1)) (As := vs.map (fx_cv tb h.1)) ⟨hx, hb, hml, hown, hts⟩ hM2 ⟨fx_cnk (B' := B') hcB hts (hxw _ hw2) ⟨hRm.1, hRm.2.1⟩, hts _ hinst, hts _ hsel⟩ ⟨hpre.1, hr, hpre.2⟩ rfl (by rw [List.length_map]; exact hnp) hL.1 rfl (fx_w8 hw) d ⟨Nat.le_trans hB.1 hRm.2.2.1, Nat.le_trans hB.2 hRm.2.2.2⟩
theorem fy_isub {a b : Int} (d : decode M.2.1 pc = .ok (.isub, 1)) (k : fx_U l M B Q c0 s0 n ls (.int (zI (a - b)) :: rest) h) (hn : pc + 1 = n := by rfl) : fx_U l M B Q c0 s0 pc ls (.int (zI b) :: .int (zI a) :: rest) h := by
  subst hn
  intro p e R s m args below meth c A D g tb S0 QQ hX hE H locs la hP hS hG hL
  have k2 := (k p e R s m args below meth c A D g tb S0 QQ hX hE H locs la hP hS hG hL)
  rw [List.map_cons] at k2
  have hz : fx_cv tb h.1 (.int (zI (a - b))) = .int (zI (a - b)) := rfl
  rw [hz, ← zI_sub a b] at k2
  exact lv_isub hX.1 hX.2.1 d k2
theorem fy_if_le {a : Int} {off : Int} {t : Nat} (d : decode M.2.1 pc = .ok (.ifCond .le off, 3)) (ha : zR a) (kt : a ≤ 0 → fx_U l M B Q c0 s0 t ls rest h) (kf : ¬ a ≤ 0 → fx_U l M B Q c0 s0 n ls rest h) (ht : (pc : Int) + off = (t : Int) := by rfl) (hn : pc + 3 = n := by rfl) : fx_U l M B Q c0 s0 pc ls (.int (zI a) :: rest) h := by
  subst hn
  intro p e R s m args below meth c A D g tb S0 QQ hX hE H locs la hP hS hG hL
  exact lv_if_le hX.1 hX.2.1 d ht (fun z => kt ((zI_le ha zR_0).mp z) p e R s m args below meth c A D g tb S0 QQ hX hE H locs la hP hS hG hL) (fun z => kf (fun y => z ((zI_le ha zR_0).mpr y)) p e R s m args below meth c A D g tb S0 QQ hX hE H locs la hP hS hG hL)
theorem fy_if_gt {a : Int} {off : Int} {t : Nat} (d : decode M.2.1 pc = .ok (.ifCond .gt off, 3)) (ha : zR a) (kt : 0 < a → fx_U l M B Q c0 s0 t ls rest h) (kf : ¬ 0 < a → fx_U l M B Q c0 s0 n ls rest h) (ht : (pc : Int) + off = (t : Int) := by rfl) (hn : pc + 3 = n := by rfl) : fx_U l M B Q c0 s0 pc ls (.int (zI a) :: rest) h := by
  subst hn
  intro p e R s m args below meth c A D g tb S0 QQ hX hE H locs la hP hS hG hL
  exact lv_if_gt hX.1 hX.2.1 d ht (fun z => kt ((zI_lt zR_0 ha).mp z) p e R s m args below meth c A D g tb S0 QQ hX hE H locs la hP hS hG hL) (fun z => kf (fun y => z ((zI_lt zR_0 ha).mpr y)) p e R s m args below meth c A D g tb S0 QQ hX hE H locs la hP hS hG hL)
theorem fy_lload_n {z : Fin 4} {i : Nat} {x : Int64} (d : decode M.2.1 pc = .ok (.lload_n z, 1)) (hi : (z : Nat) = i) (hx : ls[i]? = some (some (.long x))) (k : fx_U l M B Q c0 s0 n ls (.long x :: rest) h) (hn : pc + 1 = n := by rfl) : fx_U l M B Q c0 s0 pc ls (rest) h := by
  subst hn
  intro p e R s m args below meth c A D g tb S0 QQ hX hE H locs la hP hS hG hL
  exact lv_lload_n hX.1 hX.2.1 d hi (hL.2.2 i (.long x) hx) (k p e R s m args below meth c A D g tb S0 QQ hX hE H locs la hP hS hG hL)
theorem fy_lcmp {a b : Int} (d : decode M.2.1 pc = .ok (.lcmp, 1)) (ha : zRL a) (hb : zRL b) (k : fx_U l M B Q c0 s0 n ls (.int (zI (zC a b)) :: rest) h) (hn : pc + 1 = n := by rfl) : fx_U l M B Q c0 s0 pc ls (.long (zL b) :: .long (zL a) :: rest) h := by
  subst hn
  intro p e R s m args below meth c A D g tb S0 QQ hX hE H locs la hP hS hG hL
  have k2 := (k p e R s m args below meth c A D g tb S0 QQ hX hE H locs la hP hS hG hL)
  rw [List.map_cons] at k2
  have hz : fx_cv tb h.1 (.int (zI (zC a b))) = .int (zI (zC a b)) := rfl
  rw [hz, ← zL_cmp ha hb] at k2
  exact W.lcmp hX.1 hX.2.1 d k2
end FYR
