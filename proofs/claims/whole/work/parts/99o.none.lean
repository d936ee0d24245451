/-! walks that write nothing -/
/-- a walk that has written nothing yet -/
def fx_N (l : Launch) (M : fx_M) (B : Nat × Nat) (Q : fx_EE) (pc : Nat) (ls : List (Option Value)) (st : List Value) (h : fx_H) : Prop :=
  ∀ (p : Program) (e : Env) (R : Room) (s : State) (m : MethodId) (args : Array Value) (below : List Frame) (meth : Method) (c : Code) (A : Nat → Prop) (D : va_G) (g : ClassId × ClassId × ClassId) (tb : Nat → Nat) (S0 : fx_S) (QQ : State → Prop),
    fx_X M B p R s m args meth c A D g tb → Q p e R s m args below meth c A D g tb S0 QQ → ∀ la : Array Slot,
    fx_P D g tb A h s.heap → fx_L (fx_cv tb h.1) la M.2.2.1 ls → W p l e R s m args below meth c s.heap [] 0 0 QQ (F0 m pc la (st.map (fx_cv tb h.1)))
section FNR
variable {l : Launch} {M M' : fx_M} {B : Nat × Nat} {Q : fx_EE} {pc n ix np : Nat} {ls ls2 : List (Option Value)} {st rest vs : List Value} {h : fx_H}
theorem fn_iload_n {z : Fin 4} {i : Nat} {x : Int32} (d : decode M.2.1 pc = .ok (.iload_n z, 1)) (hi : (z : Nat) = i) (hx : ls[i]? = some (some (.int x))) (k : fx_N l M B Q n ls (.int x :: rest) h) (hn : pc + 1 = n := by rfl) : fx_N l M B Q pc ls (rest) h := by
  subst hn
  intro p e R s m args below meth c A D g tb S0 QQ hX hE la hP hL
  have hS : va_S A s.heap s.heap [] := va_S.rf
  exact lv_iload_n hX.1 hX.2.1 d hi (hL.2.2 i (.int x) hx) (k p e R s m args below meth c A D g tb S0 QQ hX hE la hP hL)
theorem fn_iload {i : Nat} {x : Int32} (d : decode M.2.1 pc = .ok (.iload i, 2)) (hx : ls[i]? = some (some (.int x))) (k : fx_N l M B Q n ls (.int x :: rest) h) (hn : pc + 2 = n := by rfl) : fx_N l M B Q pc ls (rest) h := by
  subst hn
  intro p e R s m args below meth c A D g tb S0 QQ hX hE la hP hL
  have hS : va_S A s.heap s.heap [] := va_S.rf
  exact lv_iload hX.1 hX.2.1 d (hL.2.2 i (.int x) hx) (k p e R s m args below meth c A D g tb S0 QQ hX hE la hP hL)
theorem fn_aload_n {z : Fin 4} {i x : Nat} (d : decode M.2.1 pc = .ok (.aload_n z, 1)) (hi : (z : Nat) = i) (hx : ls[i]? = some (some (.ref x))) (k : fx_N l M B Q n ls (.ref x :: rest) h) (hn : pc + 1 = n := by rfl) : fx_N l M B Q pc ls (rest) h := by
  subst hn
  intro p e R s m args below meth c A D g tb S0 QQ hX hE la hP hL
  have hS : va_S A s.heap s.heap [] := va_S.rf
  exact lv_aload_n hX.1 hX.2.1 d hi (hL.2.2 i (.ref x) hx) (k p e R s m args below meth c A D g tb S0 QQ hX hE la hP hL)
theorem fn_iconst {z : Int} (d : decode M.2.1 pc = .ok (.iconst z, 1)) (k : fx_N l M B Q n ls (.int (zI z) :: rest) h) (hn : pc + 1 = n := by rfl) : fx_N l M B Q pc ls (rest) h := by
  subst hn
  intro p e R s m args below meth c A D g tb S0 QQ hX hE la hP hL
  have hS : va_S A s.heap s.heap [] := va_S.rf
  exact lv_iconst hX.1 hX.2.1 d rfl (k p e R s m args below meth c A D g tb S0 QQ hX hE la hP hL)
theorem fn_sipush {z v : Int} (d : decode M.2.1 pc = .ok (.sipush z, 3)) (hv : (Int16.ofInt z).toInt32 = zI v) (k : fx_N l M B Q n ls (.int (zI v) :: rest) h) (hn : pc + 3 = n := by rfl) : fx_N l M B Q pc ls (rest) h := by
  subst hn
  intro p e R s m args below meth c A D g tb S0 QQ hX hE la hP hL
  have hS : va_S A s.heap s.heap [] := va_S.rf
  exact lv_sipush hX.1 hX.2.1 d hv (k p e R s m args below meth c A D g tb S0 QQ hX hE la hP hL)
theorem fn_bipush {z v : Int} (d : decode M.2.1 pc = .ok (.bipush z, 2)) (hv : (Int8.ofInt z).toInt32 = zI v) (k : fx_N l M B Q n ls (.int (zI v) :: rest) h) (hn : pc + 2 = n := by rfl) : fx_N l M B Q pc ls (rest) h := by
  subst hn
  intro p e R s m args below meth c A D g tb S0 QQ hX hE la hP hL
  have hS : va_S A s.heap s.heap [] := va_S.rf
  exact lv_bipush hX.1 hX.2.1 d hv (k p e R s m args below meth c A D g tb S0 QQ hX hE la hP hL)
theorem fn_if_ge {a : Int} {off : Int} {t : Nat} (d : decode M.2.1 pc = .ok (.ifCond .ge off, 3)) (ha : zR a) (kt : 0 ≤ a → fx_N l M B Q t ls rest h) (kf : ¬ 0 ≤ a → fx_N l M B Q n ls rest h) (ht : (pc : Int) + off = (t : Int) := by rfl) (hn : pc + 3 = n := by rfl) : fx_N l M B Q pc ls (.int (zI a) :: rest) h := by
  subst hn
  intro p e R s m args below meth c A D g tb S0 QQ hX hE la hP hL
  have hS : va_S A s.heap s.heap [] := va_S.rf
  exact lv_if_ge hX.1 hX.2.1 d ht (fun z => kt ((zI_le zR_0 ha).mp z) p e R s m args below meth c A D g tb S0 QQ hX hE la hP hL) (fun z => kf (fun y => z ((zI_le zR_0 ha).mpr y)) p e R s m args below meth c A D g tb S0 QQ hX hE la hP hL)
theorem fn_if_ne {a : Int} {off : Int} {t : Nat} (d : decode M.2.1 pc = .ok (.ifCond .ne off, 3)) (ha : zR a) (kt : ¬ a = 0 → fx_N l M B Q t ls rest h) (kf : a = 0 → fx_N l M B Q n ls rest h) (ht : (pc : Int) + off = (t : Int) := by rfl) (hn : pc + 3 = n := by rfl) : fx_N l M B Q pc ls (.int (zI a) :: rest) h := by
  subst hn
  intro p e R s m args below meth c A D g tb S0 QQ hX hE la hP hL
  have hS : va_S A s.heap s.heap [] := va_S.rf
  exact lv_if_ne hX.1 hX.2.1 d ht (fun z => kt (fun y => z ((zI_eq ha zR_0).mpr y)) p e R s m args below meth c A D g tb S0 QQ hX hE la hP hL) (fun z => kf ((zI_eq ha zR_0).mp z) p e R s m args below meth c A D g tb S0 QQ hX hE la hP hL)
theorem fn_if_eq {a : Int} {off : Int} {t : Nat} (d : decode M.2.1 pc = .ok (.ifCond .eq off, 3)) (ha : zR a) (kt : a = 0 → fx_N l M B Q t ls rest h) (kf : ¬ a = 0 → fx_N l M B Q n ls rest h) (ht : (pc : Int) + off = (t : Int) := by rfl) (hn : pc + 3 = n := by rfl) : fx_N l M B Q pc ls (.int (zI a) :: rest) h := by
  subst hn
  intro p e R s m args below meth c A D g tb S0 QQ hX hE la hP hL
  have hS : va_S A s.heap s.heap [] := va_S.rf
  exact lv_if_eq hX.1 hX.2.1 d ht (fun z => kt ((zI_eq ha zR_0).mp z) p e R s m args below meth c A D g tb S0 QQ hX hE la hP hL) (fun z => kf (fun y => z ((zI_eq ha zR_0).mpr y)) p e R s m args below meth c A D g tb S0 QQ hX hE la hP hL)
theorem fn_if_lt {a : Int} {off : Int} {t : Nat} (d : decode M.2.1 pc = .ok (.ifCond .lt off, 3)) (ha : zR a) (kt : a < 0 → fx_N l M B Q t ls rest h) (kf : ¬ a < 0 → fx_N l M B Q n ls rest h) (ht : (pc : Int) + off = (t : Int) := by rfl) (hn : pc + 3 = n := by rfl) : fx_N l M B Q pc ls (.int (zI a) :: rest) h := by
  subst hn
  intro p e R s m args below meth c A D g tb S0 QQ hX hE la hP hL
  have hS : va_S A s.heap s.heap [] := va_S.rf
  exact lv_if_lt hX.1 hX.2.1 d ht (fun z => kt ((zI_lt ha zR_0).mp z) p e R s m args below meth c A D g tb S0 QQ hX hE la hP hL) (fun z => kf (fun y => z ((zI_lt ha zR_0).mpr y)) p e R s m args below meth c A D g tb S0 QQ hX hE la hP hL)
theorem fn_if_le {a : Int} {off : Int} {t : Nat} (d : decode M.2.1 pc = .ok (.ifCond .le off, 3)) (ha : zR a) (kt : a ≤ 0 → fx_N l M B Q t ls rest h) (kf : ¬ a ≤ 0 → fx_N l M B Q n ls rest h) (ht : (pc : Int) + off = (t : Int) := by rfl) (hn : pc + 3 = n := by rfl) : fx_N l M B Q pc ls (.int (zI a) :: rest) h := by
  subst hn
  intro p e R s m args below meth c A D g tb S0 QQ hX hE la hP hL
  have hS : va_S A s.heap s.heap [] := va_S.rf
  exact lv_if_le hX.1 hX.2.1 d ht (fun z => kt ((zI_le ha zR_0).mp z) p e R s m args below meth c A D g tb S0 QQ hX hE la hP hL) (fun z => kf (fun y => z ((zI_le ha zR_0).mpr y)) p e R s m args below meth c A D g tb S0 QQ hX hE la hP hL)
theorem fn_if_gt {a : Int} {off : Int} {t : Nat} (d : decode M.2.1 pc = .ok (.ifCond .gt off, 3)) (ha : zR a) (kt : 0 < a → fx_N l M B Q t ls rest h) (kf : ¬ 0 < a → fx_N l M B Q n ls rest h) (ht : (pc : Int) + off = (t : Int) := by rfl) (hn : pc + 3 = n := by rfl) : fx_N l M B Q pc ls (.int (zI a) :: rest) h := by
  subst hn
  intro p e R s m args below meth c A D g tb S0 QQ hX hE la hP hL
  have hS : va_S A s.heap s.heap [] := va_S.rf
  exact lv_if_gt hX.1 hX.2.1 d ht (fun z => kt ((zI_lt zR_0 ha).mp z) p e R s m args below meth c A D g tb S0 QQ hX hE la hP hL) (fun z => kf (fun y => z ((zI_lt zR_0 ha).mpr y)) p e R s m args below meth c A D g tb S0 QQ hX hE la hP hL)
theorem fn_icmp_le {a b : Int} {off : Int} {t : Nat} (d : decode M.2.1 pc = .ok (.if_icmp .le off, 3)) (ha : zR a) (hb : zR b) (kt : a ≤ b → fx_N l M B Q t ls rest h) (kf : ¬ a ≤ b → fx_N l M B Q n ls rest h) (ht : (pc : Int) + off = (t : Int) := by rfl) (hn : pc + 3 = n := by rfl) : fx_N l M B Q pc ls (.int (zI b) :: .int (zI a) :: rest) h := by
  subst hn
  intro p e R s m args below meth c A D g tb S0 QQ hX hE la hP hL
  have hS : va_S A s.heap s.heap [] := va_S.rf
  exact lv_icmp_le hX.1 hX.2.1 d ht (fun z => kt ((zI_le ha hb).mp z) p e R s m args below meth c A D g tb S0 QQ hX hE la hP hL) (fun z => kf (fun y => z ((zI_le ha hb).mpr y)) p e R s m args below meth c A D g tb S0 QQ hX hE la hP hL)
theorem fn_icmp_lt {a b : Int} {off : Int} {t : Nat} (d : decode M.2.1 pc = .ok (.if_icmp .lt off, 3)) (ha : zR a) (hb : zR b) (kt : a < b → fx_N l M B Q t ls rest h) (kf : ¬ a < b → fx_N l M B Q n ls rest h) (ht : (pc : Int) + off = (t : Int) := by rfl) (hn : pc + 3 = n := by rfl) : fx_N l M B Q pc ls (.int (zI b) :: .int (zI a) :: rest) h := by
  subst hn
  intro p e R s m args below meth c A D g tb S0 QQ hX hE la hP hL
  have hS : va_S A s.heap s.heap [] := va_S.rf
  exact lv_icmp_lt hX.1 hX.2.1 d ht (fun z => kt ((zI_lt ha hb).mp z) p e R s m args below meth c A D g tb S0 QQ hX hE la hP hL) (fun z => kf (fun y => z ((zI_lt ha hb).mpr y)) p e R s m args below meth c A D g tb S0 QQ hX hE la hP hL)
theorem fn_icmp_gt {a b : Int} {off : Int} {t : Nat} (d : decode M.2.1 pc = .ok (.if_icmp .gt off, 3)) (ha : zR a) (hb : zR b) (kt : b < a → fx_N l M B Q t ls rest h) (kf : ¬ b < a → fx_N l M B Q n ls rest h) (ht : (pc : Int) + off = (t : Int) := by rfl) (hn : pc + 3 = n := by rfl) : fx_N l M B Q pc ls (.int (zI b) :: .int (zI a) :: rest) h := by
  subst hn
  intro p e R s m args below meth c A D g tb S0 QQ hX hE la hP hL
  have hS : va_S A s.heap s.heap [] := va_S.rf
  exact lv_icmp_gt hX.1 hX.2.1 d ht (fun z => kt ((zI_lt hb ha).mp z) p e R s m args below meth c A D g tb S0 QQ hX hE la hP hL) (fun z => kf (fun y => z ((zI_lt hb ha).mpr y)) p e R s m args below meth c A D g tb S0 QQ hX hE la hP hL)
theorem fn_icmp_ge {a b : Int} {off : Int} {t : Nat} (d : decode M.2.1 pc = .ok (.if_icmp .ge off, 3)) (ha : zR a) (hb : zR b) (kt : b ≤ a → fx_N l M B Q t ls rest h) (kf : ¬ b ≤ a → fx_N l M B Q n ls rest h) (ht : (pc : Int) + off = (t : Int) := by rfl) (hn : pc + 3 = n := by rfl) : fx_N l M B Q pc ls (.int (zI b) :: .int (zI a) :: rest) h := by
  subst hn
  intro p e R s m args below meth c A D g tb S0 QQ hX hE la hP hL
  have hS : va_S A s.heap s.heap [] := va_S.rf
  exact lv_icmp_ge hX.1 hX.2.1 d ht (fun z => kt ((zI_le hb ha).mp z) p e R s m args below meth c A D g tb S0 QQ hX hE la hP hL) (fun z => kf (fun y => z ((zI_le hb ha).mpr y)) p e R s m args below meth c A D g tb S0 QQ hX hE la hP hL)
theorem fn_icmp_ne {a b : Int} {off : Int} {t : Nat} (d : decode M.2.1 pc = .ok (.if_icmp .ne off, 3)) (ha : zR a) (hb : zR b) (kt : ¬ a = b → fx_N l M B Q t ls rest h) (kf : a = b → fx_N l M B Q n ls rest h) (ht : (pc : Int) + off = (t : Int) := by rfl) (hn : pc + 3 = n := by rfl) : fx_N l M B Q pc ls (.int (zI b) :: .int (zI a) :: rest) h := by
  subst hn
  intro p e R s m args below meth c A D g tb S0 QQ hX hE la hP hL
  have hS : va_S A s.heap s.heap [] := va_S.rf
  exact lv_icmp_ne hX.1 hX.2.1 d ht (fun z => kt (fun y => z ((zI_eq ha hb).mpr y)) p e R s m args below meth c A D g tb S0 QQ hX hE la hP hL) (fun z => kf ((zI_eq ha hb).mp z) p e R s m args below meth c A D g tb S0 QQ hX hE la hP hL)
theorem fn_icmp_eq {a b : Int} {off : Int} {t : Nat} (d : decode M.2.1 pc = .ok (.if_icmp .eq off, 3)) (ha : zR a) (hb : zR b) (kt : a = b → fx_N l M B Q t ls rest h) (kf : ¬ a = b → fx_N l M B Q n ls rest h) (ht : (pc : Int) + off = (t : Int) := by rfl) (hn : pc + 3 = n := by rfl) : fx_N l M B Q pc ls (.int (zI b) :: .int (zI a) :: rest) h := by
  subst hn
  intro p e R s m args below meth c A D g tb S0 QQ hX hE la hP hL
  have hS : va_S A s.heap s.heap [] := va_S.rf
  exact lv_icmp_eq hX.1 hX.2.1 d ht (fun z => kt ((zI_eq ha hb).mp z) p e R s m args below meth c A D g tb S0 QQ hX hE la hP hL) (fun z => kf (fun y => z ((zI_eq ha hb).mpr y)) p e R s m args below meth c A D g tb S0 QQ hX hE la hP hL)
theorem fn_goto {off : Int} (d : decode M.2.1 pc = .ok (.goto off, 3)) (k : fx_N l M B Q n ls st h) (ht : (pc : Int) + off = (n : Int) := by rfl) : fx_N l M B Q pc ls st h := by
  intro p e R s m args below meth c A D g tb S0 QQ hX hE la hP hL
  have hS : va_S A s.heap s.heap [] := va_S.rf
  exact lv_goto hX.1 hX.2.1 d ht (k p e R s m args below meth c A D g tb S0 QQ hX hE la hP hL)
theorem fn_i2l {a : Int} (d : decode M.2.1 pc = .ok (.i2l, 1)) (ha : zR a) (k : fx_N l M B Q n ls (.long (zL a) :: rest) h) (hn : pc + 1 = n := by rfl) : fx_N l M B Q pc ls (.int (zI a) :: rest) h := by
  subst hn
  intro p e R s m args below meth c A D g tb S0 QQ hX hE la hP hL
  have hS : va_S A s.heap s.heap [] := va_S.rf
  have k2 := (k p e R s m args below meth c A D g tb S0 QQ hX hE la hP hL)
  rw [List.map_cons] at k2
  have hz : fx_cv tb h.1 (.long (zL a)) = .long (zL a) := rfl
  rw [hz, ← zI_i2l ha] at k2
  exact lv_i2l hX.1 hX.2.1 d rfl k2
theorem fn_lload_n {z : Fin 4} {i : Nat} {x : Int64} (d : decode M.2.1 pc = .ok (.lload_n z, 1)) (hi : (z : Nat) = i) (hx : ls[i]? = some (some (.long x))) (k : fx_N l M B Q n ls (.long x :: rest) h) (hn : pc + 1 = n := by rfl) : fx_N l M B Q pc ls (rest) h := by
  subst hn
  intro p e R s m args below meth c A D g tb S0 QQ hX hE la hP hL
  have hS : va_S A s.heap s.heap [] := va_S.rf
  exact lv_lload_n hX.1 hX.2.1 d hi (hL.2.2 i (.long x) hx) (k p e R s m args below meth c A D g tb S0 QQ hX hE la hP hL)
theorem fn_lload {i : Nat} {x : Int64} (d : decode M.2.1 pc = .ok (.lload i, 2)) (hx : ls[i]? = some (some (.long x))) (k : fx_N l M B Q n ls (.long x :: rest) h) (hn : pc + 2 = n := by rfl) : fx_N l M B Q pc ls (rest) h := by
  subst hn
  intro p e R s m args below meth c A D g tb S0 QQ hX hE la hP hL
  have hS : va_S A s.heap s.heap [] := va_S.rf
  exact lv_lload hX.1 hX.2.1 d (hL.2.2 i (.long x) hx) (k p e R s m args below meth c A D g tb S0 QQ hX hE la hP hL)
theorem fn_lcmp {a b : Int} (d : decode M.2.1 pc = .ok (.lcmp, 1)) (ha : zRL a) (hb : zRL b) (k : fx_N l M B Q n ls (.int (zI (zC a b)) :: rest) h) (hn : pc + 1 = n := by rfl) : fx_N l M B Q pc ls (.long (zL b) :: .long (zL a) :: rest) h := by
  subst hn
  intro p e R s m args below meth c A D g tb S0 QQ hX hE la hP hL
  have hS : va_S A s.heap s.heap [] := va_S.rf
  have k2 := (k p e R s m args below meth c A D g tb S0 QQ hX hE la hP hL)
  rw [List.map_cons] at k2
  have hz : fx_cv tb h.1 (.int (zI (zC a b))) = .int (zI (zC a b)) := rfl
  rw [hz, ← zL_cmp ha hb] at k2
  exact W.lcmp hX.1 hX.2.1 d k2
theorem fn_lconst {z : Fin 2} {v : Int} (d : decode M.2.1 pc = .ok (.lconst z, 1)) (hv : Int64.ofNat (z : Nat) = zL v) (k : fx_N l M B Q n ls (.long (zL v) :: rest) h) (hn : pc + 1 = n := by rfl) : fx_N l M B Q pc ls (rest) h := by
  subst hn
  intro p e R s m args below meth c A D g tb S0 QQ hX hE la hP hL
  have hS : va_S A s.heap s.heap [] := va_S.rf
  exact lv_lconst hX.1 hX.2.1 d hv (k p e R s m args below meth c A D g tb S0 QQ hX hE la hP hL)
theorem fn_ldc2 {ix : Nat} {v : Int} (d : decode M.2.1 pc = .ok (.ldc2_w ix, 3)) (hw : Cond.constantLong M.1.cls ix (zL v) ∈ fx_tb) (k : fx_N l M B Q n ls (.long (zL v) :: rest) h) (hn : pc + 3 = n := by rfl) : fx_N l M B Q pc ls (rest) h := by
  subst hn
  intro p e R s m args below meth c A D g tb S0 QQ hX hE la hP hL
  have hS : va_S A s.heap s.heap [] := va_S.rf
  exact lv_ldc2 hX.1 hX.2.1 hX.2.2.2.1 (hX.2.2.2.2.1 _ hw) d (k p e R s m args below meth c A D g tb S0 QQ hX hE la hP hL)
theorem fn_getR {p0 j ci a ix : Nat} {rs : List (Option Nat)} {ty0 : FieldType} {fin nst : Bool} {q : Nat} (d : decode M.2.1 pc = .ok (.getfield ix, 3)) (hl : fx_lk M.1.cls ix ci j ty0 fin nst) (hq : h.1[p0]? = some (a, .inl (ci, rs))) (hi : fx_kd ci j = true) (hr : rs.getD j none = some q) (k : fx_N l M B Q n ls (.ref q :: rest) h) (hn : pc + 3 = n := by rfl) : fx_N l M B Q pc ls (.ref p0 :: rest) h := by
  subst hn
  intro p e R s m args below meth c A D g tb S0 QQ hX hE la hP hL
  have hS : va_S A s.heap s.heap [] := va_S.rf
  obtain ⟨hx, hb, hml, hown, hts, hK, hA, hSt, hRm, hnm, hxw⟩ := id hX
  obtain ⟨C, T, N, ty, ⟨c1, c2, c3, c4, c5, -⟩, hk, -, -, -, hw⟩ := hl
  have he := fx_ws_at (g := g) (tb := tb) hq
  have hv : (fx_ob tb h.1 (h.2.1 p0) ci rs)[j]? = some (fx_cv tb h.1 (.ref q)) := by
    rw [fx_ob_at _ _ _ _ _ (by rw [c5]; exact hk)]
    simp only [fx_fv, hi, cond_true, hr, fx_cv]
  have k2 := (k p e R s m args below meth c A D g tb S0 QQ hX hE la hP hL)
  have ha : fx_cv tb h.1 (.ref p0) = .ref a := by simp only [fx_cv, fx_ad_at hq]
  rw [List.map_cons] at k2 ⊢
  rw [ha]
  rcases hw with ⟨-, hw⟩ | ⟨hz, host, hw⟩
  · exact va_get (D := D) (ci := ci) (C := C) (T := T) (N := N) hx hb hts c2 hown hK hP.1 p0 he c1 j hk (hts _ hw) (fun _ h9 => h9) hv d k2
  · exact va_getN (D := D) (ci := ci) (C := C) (T := T) (N := N) hx hb hts c2 hown hK hP.1 p0 he c1 j hk (va_Nw.use rfl (hxw _ hw)) (fun _ h9 => h9) hv d k2
theorem fn_getI {p0 j ci a ix : Nat} {rs : List (Option Nat)} {ty0 : FieldType} {fin nst : Bool} (d : decode M.2.1 pc = .ok (.getfield ix, 3)) (hl : fx_lk M.1.cls ix ci j ty0 fin nst) (hq : h.1[p0]? = some (a, .inl (ci, rs))) (hi : fx_kd ci j = false) (k : fx_N l M B Q n ls (.int (zI (h.2.1 p0 j)) :: rest) h) (hn : pc + 3 = n := by rfl) : fx_N l M B Q pc ls (.ref p0 :: rest) h := by
  subst hn
  intro p e R s m args below meth c A D g tb S0 QQ hX hE la hP hL
  have hS : va_S A s.heap s.heap [] := va_S.rf
  obtain ⟨hx, hb, hml, hown, hts, hK, hA, hSt, hRm, hnm, hxw⟩ := id hX
  obtain ⟨C, T, N, ty, ⟨c1, c2, c3, c4, c5, -⟩, hk, -, -, -, hw⟩ := hl
  have he := fx_ws_at (g := g) (tb := tb) hq
  have hv : (fx_ob tb h.1 (h.2.1 p0) ci rs)[j]? = some (fx_cv tb h.1 (.int (zI (h.2.1 p0 j)))) := by
    rw [fx_ob_at _ _ _ _ _ (by rw [c5]; exact hk)]
    simp only [fx_fv, hi, cond_false, fx_cv]
  have k2 := (k p e R s m args below meth c A D g tb S0 QQ hX hE la hP hL)
  have ha : fx_cv tb h.1 (.ref p0) = .ref a := by simp only [fx_cv, fx_ad_at hq]
  rw [List.map_cons] at k2 ⊢
  rw [ha]
  rcases hw with ⟨-, hw⟩ | ⟨hz, host, hw⟩
  · exact va_get (D := D) (ci := ci) (C := C) (T := T) (N := N) hx hb hts c2 hown hK hP.1 p0 he c1 j hk (hts _ hw) (fun _ h9 => h9) hv d k2
  · exact va_getN (D := D) (ci := ci) (C := C) (T := T) (N := N) hx hb hts c2 hown hK hP.1 p0 he c1 j hk (va_Nw.use rfl (hxw _ hw)) (fun _ h9 => h9) hv d k2
theorem fn_istore_n {z : Fin 4} {i : Nat} {x : Int32} (d : decode M.2.1 pc = .ok (.istore_n z, 1)) (hi : (z : Nat) = i) (hb : i < M.2.2.1) (hs : fx_s1 i (.int x) ls = ls2) (k : fx_N l M B Q n ls2 rest h) (hn : pc + 1 = n := by rfl) : fx_N l M B Q pc ls (.int x :: rest) h := by
  subst hn
  subst hs
  intro p e R s m args below meth c A D g tb S0 QQ hX hE la hP hL
  have hS : va_S A s.heap s.heap [] := va_S.rf
  exact lv_istore_n hX.1 hX.2.1 d hi (fx_L_has hL) hb rfl (fun la2 h2 => k p e R s m args below meth c A D g tb S0 QQ hX hE la2 hP (fx_L_s1 (v := .int x) (fx_cv_cat tb h.1) h2))
theorem fn_istore {i : Nat} {x : Int32} (d : decode M.2.1 pc = .ok (.istore i, 2)) (hb : i < M.2.2.1) (hs : fx_s1 i (.int x) ls = ls2) (k : fx_N l M B Q n ls2 rest h) (hn : pc + 2 = n := by rfl) : fx_N l M B Q pc ls (.int x :: rest) h := by
  subst hn
  subst hs
  intro p e R s m args below meth c A D g tb S0 QQ hX hE la hP hL
  have hS : va_S A s.heap s.heap [] := va_S.rf
  exact lv_istore hX.1 hX.2.1 d (fx_L_has hL) hb rfl (fun la2 h2 => k p e R s m args below meth c A D g tb S0 QQ hX hE la2 hP (fx_L_s1 (v := .int x) (fx_cv_cat tb h.1) h2))
theorem fn_isub {a b : Int} (d : decode M.2.1 pc = .ok (.isub, 1)) (k : fx_N l M B Q n ls (.int (zI (a - b)) :: rest) h) (hn : pc + 1 = n := by rfl) : fx_N l M B Q pc ls (.int (zI b) :: .int (zI a) :: rest) h := by
  subst hn
  intro p e R s m args below meth c A D g tb S0 QQ hX hE la hP hL
  have hS : va_S A s.heap s.heap [] := va_S.rf
  have k2 := (k p e R s m args below meth c A D g tb S0 QQ hX hE la hP hL)
  rw [List.map_cons] at k2
  have hz : fx_cv tb h.1 (.int (zI (a - b))) = .int (zI (a - b)) := rfl
  rw [hz, ← zI_sub a b] at k2
  exact lv_isub hX.1 hX.2.1 d k2
theorem fn_iadd {a b : Int} (d : decode M.2.1 pc = .ok (.iadd, 1)) (k : fx_N l M B Q n ls (.int (zI (a + b)) :: rest) h) (hn : pc + 1 = n := by rfl) : fx_N l M B Q pc ls (.int (zI b) :: .int (zI a) :: rest) h := by
  subst hn
  intro p e R s m args below meth c A D g tb S0 QQ hX hE la hP hL
  have hS : va_S A s.heap s.heap [] := va_S.rf
  have k2 := (k p e R s m args below meth c A D g tb S0 QQ hX hE la hP hL)
  rw [List.map_cons] at k2
  have hz : fx_cv tb h.1 (.int (zI (a + b))) = .int (zI (a + b)) := rfl
  rw [hz, ← zI_add a b] at k2
  exact lv_iadd hX.1 hX.2.1 d k2
/-- what a call that writes nothing is worth -/
def fx_Mq (l : Launch) (M : fx_M) (vs : List Value) (h : fx_H) (Qv : Int → Prop) : Prop :=
  ∀ (D : va_G) (g : ClassId × ClassId × ClassId) (tb : Nat → Nat) (sz : Nat), Met l M.1 (fx_wd M) (fx_rm M (0, 0)) (va_Pc (vs.map (fx_cv tb h.1)) (fx_In D g tb h sz)) (fun _ s o t => ∃ r : Int, o = .returned (some (.int (zI r))) ∧ Qv r ∧ t.heap = s.heap) 0 0 (fun _ => False)
def fx_EN (l : Launch) (M : fx_M) (Qv : Int → Prop) : fx_EE := fun p e R s m args below meth c _ _ _ _ _ QQ => ∀ (r : Int) (pc : Nat) (la : Array Slot), Qv r → fx_ret M (some (.int (zI r))) pc → W p l e R s m args below meth c s.heap [] 0 0 QQ (F0 m pc la [.int (zI r)])
theorem fn_end {Qv : Int → Prop} (r : Int) (hr : fx_ret M (some (.int (zI r))) pc) (k : Qv r) : fx_N l M B (fx_EN l M Qv) pc ls [.int (zI r)] h := by
  intro p e R s m args below meth c A D g tb S0 QQ hX hE la hP hL
  exact hE r pc la k hr
theorem fn_entry {Qv : Int → Prop} (hy : plainName M.1.cls = true) (hn : (lg_sl vs).length ≤ M.2.2.1) (hls : fx_en vs M.2.2.1 = ls) (k : fx_N l M (0, 0) (fx_EN l M Qv) 0 ls [] h) : fx_Mq l M vs h Qv := by
  intro D g tb sz
  refine Met.ofW (cc := M.2.1) (maxL := M.2.2.1) (ret := M.2.2.2.1) hy rfl ?_
  intro p e s m args below meth c s₁ Bd hml hv
  obtain ⟨rfl, hsz, hP, hK, hD0, hlen, hSt, hxw⟩ := hv
  subst hsz
  have hts := atoms_spec (ws := fx_wd M) Bd.pre
  have hown : s.vm.findClass M.1.cls = some m.cls := findClass_of_methodNamed Bd.named
  have hlocks := Bd.notSynchronized
  have hD := hD0.self (sz := s.heap.size)
  have hA : ∀ q : Nat, s.heap.size ≤ q → va_A (fx_ws g tb h) s.heap.size q := fun q h => Or.inr h
  have hl := lv_entry (vs.map (fx_cv tb h.1)) (n := M.2.2.1) (by rw [fx_sl_len _ (fx_cv_cat tb h.1)]; exact hn)
  rw [lg_entry_eq]
  refine k p e _ s m _ below meth c (va_A (fx_ws g tb h) s.heap.size) D g tb h.1 _ ⟨Bd.exec, Bd.bytes, hml, hown, fun w hw => hts w (List.mem_cons_of_mem _ hw), hK, hA, hSt, ⟨Nat.le_refl _, Nat.le_refl _, Nat.le_refl _, Nat.le_refl _⟩, (name_of_methodNamed Bd.named Bd.method).1, hxw⟩ ?_ _ ⟨hP, hD, hlen⟩ ?_
  · intro r pc la hQ hr
    have hrt := Bd.returns
    obtain ⟨⟨ty, h1, h2⟩, hd⟩ := hr
    exact W.zret Bd.exec Bd.bytes (hrt.trans h1) h2 (fun t ht hW => ⟨r, rfl, hQ, ht⟩) (fun q hq => absurd hq (by simp)) hd
  · subst hls
    refine fx_has_L hl fun i v hi => ?_
    have := fx_en_at (fx_cv_cat tb h.1) vs 0 _ i v hi
    simpa using this
theorem fn_core {Qv : Int → Prop} {ln : Nat} {st0 : List Value} {a : Array Value} {p : Program} {e : Env} {R : Room} {s : State} {m : MethodId} {args : Array Value} {below : List Frame} {meth : Method} {c : Code} {A : Nat → Prop} {D : va_G} {g : ClassId × ClassId × ClassId} {tb : Nat → Nat} {S0 : fx_S} {QQ : State → Prop} {la : Array Slot}
    (hX : fx_X M B p R s m args meth c A D g tb) (hE : Q p e R s m args below meth c A D g tb S0 QQ) (hP : fx_P D g tb A h s.heap) (hL : fx_L (fx_cv tb h.1) la M.2.2.1 ls)
    (hrun : fx_Run ln p l e R s m args below meth c s.heap [] 0 0 0 0 (F0 m pc la st0) (rest.map (fx_cv tb h.1)) (fun s o t => ∃ r : Int, o = .returned (some (.int (zI r))) ∧ Qv r ∧ t.heap = s.heap) (fun _ => False))
    (k : ∀ r, Qv r → fx_N l M B Q (pc + ln) ls (.int (zI r) :: rest) h) : W p l e R s m args below meth c s.heap [] 0 0 QQ (F0 m pc la st0) := by
  intro T hT X0
  obtain ⟨v, st₀, t, T', L, h0, X', hL', e1, e2, ⟨r, hv, hQ, ht⟩, st⟩ := hrun T hT X0
  cases hv
  have hL0 : L = [] := by
    cases L with
    | nil => rfl
    | cons q L => exact (hL' q List.mem_cons_self).elim
  subst hL0
  have hT' : T'.heap = s.heap := by rw [e1, ht, h0]
  obtain ⟨w, a1, b1⟩ := k r hQ p e R s m args below meth c A D g tb S0 QQ hX hE la hP hL T' hT' X'
  exact ⟨w, st w a1, b1⟩
theorem fn_callS {Qv : Int → Prop} (d : decode M.2.1 pc = .ok (.invokestatic ix, 3)) (hc : fx_cS M M' ix np) (hnp : vs.length = np) (hst : vs.reverse ++ rest = st) (hw : (rest.map fun v => v.category).sum ≤ 8) (hM : fx_Mq l M' vs h Qv) (k : ∀ r, Qv r → fx_N l M B Q (pc + 3) ls (.int (zI r) :: rest) h) : fx_N l M B Q pc ls st h := by
  subst hst
  intro p e R s m args below meth c A D g tb S0 QQ hX hE la hP hL
  obtain ⟨hx, hb, hml, hown, hts, hK, hA, hSt, hRm, hnm, hxw⟩ := id hX
  obtain ⟨hcB, hstat, hw2⟩ := hc
  refine fn_core (ln := 3) (rest := rest) (a := (vs.map (fx_cv tb h.1)).toArray) hX hE hP hL ?_ k
  rcases hw2 with hw2 | ⟨host, hw2⟩
  · exact va_runS (nL := M.2.2.1) (rest := rest.map (fx_cv tb h.1)) (As := vs.map (fx_cv tb h.1)) ⟨hx, hb, hml, hown, hts⟩ (hM D g tb s.heap.size) ⟨fx_cbk (B' := (0, 0)) hcB hts (hts _ hw2) ⟨hRm.1, hRm.2.1⟩, hts _ hstat⟩ (fx_pre (l := l) (Q := fun _ _ => True) (c0 := 0) hX hP va_S.rf) rfl (by rw [List.length_map]; exact hnp) hL.1 (by rw [List.map_append, List.map_reverse]) (fx_w8 hw) d ⟨Nat.zero_le _, Nat.zero_le _⟩
  · exact va_runSN (nL := M.2.2.1) (rest := rest.map (fx_cv tb h.1)) (As := vs.map (fx_cv tb h.1)) ⟨hx, hb, hml, hown, hts⟩ (hM D g tb s.heap.size) ⟨fx_cnk (B' := (0, 0)) hcB hts (hxw _ hw2) ⟨hRm.1, hRm.2.1⟩, hts _ hstat, trivial⟩ (fx_pre (l := l) (Q := fun _ _ => True) (c0 := 0) hX hP va_S.rf) rfl (by rw [List.length_map]; exact hnp) hL.1 (by rw [List.map_append, List.map_reverse]) (fx_w8 hw) d ⟨Nat.zero_le _, Nat.zero_le _⟩
theorem fn_callV {Qv : Int → Prop} {b0 a ci : Nat} {rs : List (Option Nat)} (d : decode M.2.1 pc = .ok (.invokevirtual ix, 3)) (hc : fx_cV M M' ix np) (hq : h.1[b0]? = some (a, .inl (ci, rs))) (hcl : (fx_cl[ci]?).map (fun q => q.1) = some M'.1.cls) (hnp : vs.length = np) (hst : vs.reverse ++ .ref b0 :: rest = st) (hw : (rest.map fun v => v.category).sum ≤ 8) (hM : fx_Mq l M' (.ref b0 :: vs) h Qv) (k : ∀ r, Qv r → fx_N l M B Q (pc + 3) ls (.int (zI r) :: rest) h) : fx_N l M B Q pc ls st h := by
  subst hst
  intro p e R s m args below meth c A D g tb S0 QQ hX hE la hP hL
  obtain ⟨hx, hb, hml, hown, hts, hK, hA, hSt, hRm, hnm, hxw⟩ := id hX
  obtain ⟨hcB, hinst, hsel, hw2⟩ := hc
  have hr : ∃ cellB : Cell, s.heap[a]? = some cellB ∧ cellB.vm.isStatics = false ∧ s.vm.findClass M'.1.cls = some cellB.cls := by
    cases hv : fx_cl[ci]? with
    | none => rw [hv] at hcl; cases hcl
    | some q =>
      rw [hv] at hcl
      have hq1 : q.1 = M'.1.cls := Option.some.inj hcl
      rw [← hq1]
      exact va_recv hK hP.1 hv (fx_ws_at (g := g) (tb := tb) hq)
  have ha : fx_cv tb h.1 (.ref b0) = .ref a := by simp only [fx_cv, fx_ad_at hq]
  have hpre := fx_pre (l := l) (Q := fun _ _ => True) (c0 := 0) (vs := .ref b0 :: vs) hX hP va_S.rf
  rw [List.map_cons, ha] at hpre
  have hM2 := hM D g tb s.heap.size
  rw [List.map_cons, ha] at hM2
  have hstk : (vs.reverse ++ .ref b0 :: rest).map (fx_cv tb h.1) = (vs.map (fx_cv tb h.1)).reverse ++ .ref a :: rest.map (fx_cv tb h.1) := by
    rw [List.map_append, List.map_cons, ha, List.map_reverse]
  rw [hstk]
  refine fn_core (ln := 3) (rest := rest) (a := (Value.ref a :: vs.map (fx_cv tb h.1)).toArray) hX hE hP hL ?_ k
  rcases hw2 with hw2 | ⟨host, hw2⟩
  · exact va_runV (C := M'.1.cls) (nL := M.2.2.1) (rest := rest.map (fx_cv tb h.1)) (As := vs.map (fx_cv tb h.1)) ⟨hx, hb, hml, hown, hts⟩ hM2 ⟨fx_cbk (B' := (0, 0)) hcB hts (hts _ hw2) ⟨hRm.1, hRm.2.1⟩, hts _ hinst, hts _ hsel⟩ ⟨hpre.1, hr, hpre.2⟩ rfl (by rw [List.length_map]; exact hnp) hL.1 rfl (fx_w8 hw) d ⟨Nat.zero_le _, Nat.zero_le _⟩
  · exact va_runVN (C := M'.1.cls) (nL := M.2.2.1) (rest := rest.map (fx_cv tb h.1)) (As := vs.map (fx_cv tb h.1)) ⟨hx, hb, hml, hown, hts⟩ hM2 ⟨fx_cnk (B' := (0, 0)) hcB hts (hxw _ hw2) ⟨hRm.1, hRm.2.1⟩, hts _ hinst, hts _ hsel⟩ ⟨hpre.1, hr, hpre.2⟩ rfl (by rw [List.length_map]; exact hnp) hL.1 rfl (fx_w8 hw) d ⟨Nat.zero_le _, Nat.zero_le _⟩
end FNR
