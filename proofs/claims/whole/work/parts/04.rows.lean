/-! rows: an instruction each, over fx_V; ints stand as zI of an integer -/
section FXR
variable {l : Launch} {M : fx_M} {B : Nat × Nat} {Q : Option Value → fx_H → Prop} {c0 s0 pc n : Nat} {ls ls2 : List (Option Value)} {st rest : List Value} {h : fx_H}
theorem fx_iconst {z : Int} (d : decode M.2.1 pc = .ok (.iconst z, 1)) (k : fx_V l M B Q c0 s0 n ls (.int (zI z) :: rest) h) (hn : pc + 1 = n := by rfl) : fx_V l M B Q c0 s0 pc ls (rest) h := by
  subst hn
  intro p e R s m args below meth c A D g tb S0 QQ hX hE H locs la hP hS hG hL
  exact lv_iconst hX.1 hX.2.1 d rfl (k p e R s m args below meth c A D g tb S0 QQ hX hE H locs la hP hS hG hL)
theorem fx_bipush {z v : Int} (d : decode M.2.1 pc = .ok (.bipush z, 2)) (hv : (Int8.ofInt z).toInt32 = zI v) (k : fx_V l M B Q c0 s0 n ls (.int (zI v) :: rest) h) (hn : pc + 2 = n := by rfl) : fx_V l M B Q c0 s0 pc ls (rest) h := by
  subst hn
  intro p e R s m args below meth c A D g tb S0 QQ hX hE H locs la hP hS hG hL
  exact lv_bipush hX.1 hX.2.1 d hv (k p e R s m args below meth c A D g tb S0 QQ hX hE H locs la hP hS hG hL)
theorem fx_sipush {z v : Int} (d : decode M.2.1 pc = .ok (.sipush z, 3)) (hv : (Int16.ofInt z).toInt32 = zI v) (k : fx_V l M B Q c0 s0 n ls (.int (zI v) :: rest) h) (hn : pc + 3 = n := by rfl) : fx_V l M B Q c0 s0 pc ls (rest) h := by
  subst hn
  intro p e R s m args below meth c A D g tb S0 QQ hX hE H locs la hP hS hG hL
  exact lv_sipush hX.1 hX.2.1 d hv (k p e R s m args below meth c A D g tb S0 QQ hX hE H locs la hP hS hG hL)
theorem fx_lconst {z : Fin 2} {v : Int} (d : decode M.2.1 pc = .ok (.lconst z, 1)) (hv : Int64.ofNat (z : Nat) = zL v) (k : fx_V l M B Q c0 s0 n ls (.long (zL v) :: rest) h) (hn : pc + 1 = n := by rfl) : fx_V l M B Q c0 s0 pc ls (rest) h := by
  subst hn
  intro p e R s m args below meth c A D g tb S0 QQ hX hE H locs la hP hS hG hL
  exact lv_lconst hX.1 hX.2.1 d hv (k p e R s m args below meth c A D g tb S0 QQ hX hE H locs la hP hS hG hL)
theorem fx_ldc {ix : Nat} {v : Int} (d : decode M.2.1 pc = .ok (.ldc ix, 2)) (hw : Cond.constant M.1.cls ix (zI v) ∈ fx_tb) (k : fx_V l M B Q c0 s0 n ls (.int (zI v) :: rest) h) (hn : pc + 2 = n := by rfl) : fx_V l M B Q c0 s0 pc ls (rest) h := by
  subst hn
  intro p e R s m args below meth c A D g tb S0 QQ hX hE H locs la hP hS hG hL
  exact lv_ldc hX.1 hX.2.1 hX.2.2.2.1 (hX.2.2.2.2.1 _ hw) d (k p e R s m args below meth c A D g tb S0 QQ hX hE H locs la hP hS hG hL)
theorem fx_ldc2 {ix : Nat} {v : Int} (d : decode M.2.1 pc = .ok (.ldc2_w ix, 3)) (hw : Cond.constantLong M.1.cls ix (zL v) ∈ fx_tb) (k : fx_V l M B Q c0 s0 n ls (.long (zL v) :: rest) h) (hn : pc + 3 = n := by rfl) : fx_V l M B Q c0 s0 pc ls (rest) h := by
  subst hn
  intro p e R s m args below meth c A D g tb S0 QQ hX hE H locs la hP hS hG hL
  exact lv_ldc2 hX.1 hX.2.1 hX.2.2.2.1 (hX.2.2.2.2.1 _ hw) d (k p e R s m args below meth c A D g tb S0 QQ hX hE H locs la hP hS hG hL)
theorem fx_iload_n {z : Fin 4} {i : Nat} {x : Int32} (d : decode M.2.1 pc = .ok (.iload_n z, 1)) (hi : (z : Nat) = i) (hx : ls[i]? = some (some (.int x))) (k : fx_V l M B Q c0 s0 n ls (.int x :: rest) h) (hn : pc + 1 = n := by rfl) : fx_V l M B Q c0 s0 pc ls (rest) h := by
  subst hn
  intro p e R s m args below meth c A D g tb S0 QQ hX hE H locs la hP hS hG hL
  exact lv_iload_n hX.1 hX.2.1 d hi (hL.2.2 i (.int x) hx) (k p e R s m args below meth c A D g tb S0 QQ hX hE H locs la hP hS hG hL)
theorem fx_iload {i : Nat} {x : Int32} (d : decode M.2.1 pc = .ok (.iload i, 2)) (hx : ls[i]? = some (some (.int x))) (k : fx_V l M B Q c0 s0 n ls (.int x :: rest) h) (hn : pc + 2 = n := by rfl) : fx_V l M B Q c0 s0 pc ls (rest) h := by
  subst hn
  intro p e R s m args below meth c A D g tb S0 QQ hX hE H locs la hP hS hG hL
  exact lv_iload hX.1 hX.2.1 d (hL.2.2 i (.int x) hx) (k p e R s m args below meth c A D g tb S0 QQ hX hE H locs la hP hS hG hL)
theorem fx_lload_n {z : Fin 4} {i : Nat} {x : Int64} (d : decode M.2.1 pc = .ok (.lload_n z, 1)) (hi : (z : Nat) = i) (hx : ls[i]? = some (some (.long x))) (k : fx_V l M B Q c0 s0 n ls (.long x :: rest) h) (hn : pc + 1 = n := by rfl) : fx_V l M B Q c0 s0 pc ls (rest) h := by
  subst hn
  intro p e R s m args below meth c A D g tb S0 QQ hX hE H locs la hP hS hG hL
  exact lv_lload_n hX.1 hX.2.1 d hi (hL.2.2 i (.long x) hx) (k p e R s m args below meth c A D g tb S0 QQ hX hE H locs la hP hS hG hL)
theorem fx_lload {i : Nat} {x : Int64} (d : decode M.2.1 pc = .ok (.lload i, 2)) (hx : ls[i]? = some (some (.long x))) (k : fx_V l M B Q c0 s0 n ls (.long x :: rest) h) (hn : pc + 2 = n := by rfl) : fx_V l M B Q c0 s0 pc ls (rest) h := by
  subst hn
  intro p e R s m args below meth c A D g tb S0 QQ hX hE H locs la hP hS hG hL
  exact lv_lload hX.1 hX.2.1 d (hL.2.2 i (.long x) hx) (k p e R s m args below meth c A D g tb S0 QQ hX hE H locs la hP hS hG hL)
theorem fx_aload_n {z : Fin 4} {i x : Nat} (d : decode M.2.1 pc = .ok (.aload_n z, 1)) (hi : (z : Nat) = i) (hx : ls[i]? = some (some (.ref x))) (k : fx_V l M B Q c0 s0 n ls (.ref x :: rest) h) (hn : pc + 1 = n := by rfl) : fx_V l M B Q c0 s0 pc ls (rest) h := by
  subst hn
  intro p e R s m args below meth c A D g tb S0 QQ hX hE H locs la hP hS hG hL
  exact lv_aload_n hX.1 hX.2.1 d hi (hL.2.2 i (.ref x) hx) (k p e R s m args below meth c A D g tb S0 QQ hX hE H locs la hP hS hG hL)
theorem fx_aload {i x : Nat} (d : decode M.2.1 pc = .ok (.aload i, 2)) (hx : ls[i]? = some (some (.ref x))) (k : fx_V l M B Q c0 s0 n ls (.ref x :: rest) h) (hn : pc + 2 = n := by rfl) : fx_V l M B Q c0 s0 pc ls (rest) h := by
  subst hn
  intro p e R s m args below meth c A D g tb S0 QQ hX hE H locs la hP hS hG hL
  exact lv_aload hX.1 hX.2.1 d (hL.2.2 i (.ref x) hx) (k p e R s m args below meth c A D g tb S0 QQ hX hE H locs la hP hS hG hL)
theorem fx_istore_n {z : Fin 4} {i : Nat} {x : Int32} (d : decode M.2.1 pc = .ok (.istore_n z, 1)) (hi : (z : Nat) = i) (hb : i < M.2.2.1) (hs : fx_s1 i (.int x) ls = ls2) (k : fx_V l M B Q c0 s0 n ls2 rest h) (hn : pc + 1 = n := by rfl) : fx_V l M B Q c0 s0 pc ls (.int x :: rest) h := by
  subst hn
  subst hs
  intro p e R s m args below meth c A D g tb S0 QQ hX hE H locs la hP hS hG hL
  exact lv_istore_n hX.1 hX.2.1 d hi (fx_L_has hL) hb rfl (fun la2 h2 => k p e R s m args below meth c A D g tb S0 QQ hX hE H locs la2 hP hS hG (fx_L_s1 (v := .int x) (fx_cv_cat tb h.1) h2))
theorem fx_istore {i : Nat} {x : Int32} (d : decode M.2.1 pc = .ok (.istore i, 2)) (hb : i < M.2.2.1) (hs : fx_s1 i (.int x) ls = ls2) (k : fx_V l M B Q c0 s0 n ls2 rest h) (hn : pc + 2 = n := by rfl) : fx_V l M B Q c0 s0 pc ls (.int x :: rest) h := by
  subst hn
  subst hs
  intro p e R s m args below meth c A D g tb S0 QQ hX hE H locs la hP hS hG hL
  exact lv_istore hX.1 hX.2.1 d (fx_L_has hL) hb rfl (fun la2 h2 => k p e R s m args below meth c A D g tb S0 QQ hX hE H locs la2 hP hS hG (fx_L_s1 (v := .int x) (fx_cv_cat tb h.1) h2))
theorem fx_lstore_n {z : Fin 4} {i : Nat} {x : Int64} (d : decode M.2.1 pc = .ok (.lstore_n z, 1)) (hi : (z : Nat) = i) (hb : i + 1 < M.2.2.1) (hs : fx_s2 i (.long x) ls = ls2) (k : fx_V l M B Q c0 s0 n ls2 rest h) (hn : pc + 1 = n := by rfl) : fx_V l M B Q c0 s0 pc ls (.long x :: rest) h := by
  subst hn
  subst hs
  intro p e R s m args below meth c A D g tb S0 QQ hX hE H locs la hP hS hG hL
  exact lv_lstore_n hX.1 hX.2.1 d hi (fx_L_has hL) hb rfl (fun la2 h2 => k p e R s m args below meth c A D g tb S0 QQ hX hE H locs la2 hP hS hG (fx_L_s2 (v := .long x) (fx_cv_cat tb h.1) h2))
theorem fx_lstore {i : Nat} {x : Int64} (d : decode M.2.1 pc = .ok (.lstore i, 2)) (hb : i + 1 < M.2.2.1) (hs : fx_s2 i (.long x) ls = ls2) (k : fx_V l M B Q c0 s0 n ls2 rest h) (hn : pc + 2 = n := by rfl) : fx_V l M B Q c0 s0 pc ls (.long x :: rest) h := by
  subst hn
  subst hs
  intro p e R s m args below meth c A D g tb S0 QQ hX hE H locs la hP hS hG hL
  exact lv_lstore hX.1 hX.2.1 d (fx_L_has hL) hb rfl (fun la2 h2 => k p e R s m args below meth c A D g tb S0 QQ hX hE H locs la2 hP hS hG (fx_L_s2 (v := .long x) (fx_cv_cat tb h.1) h2))
theorem fx_astore_n {z : Fin 4} {i x : Nat} (d : decode M.2.1 pc = .ok (.astore_n z, 1)) (hi : (z : Nat) = i) (hb : i < M.2.2.1) (hs : fx_s1 i (.ref x) ls = ls2) (k : fx_V l M B Q c0 s0 n ls2 rest h) (hn : pc + 1 = n := by rfl) : fx_V l M B Q c0 s0 pc ls (.ref x :: rest) h := by
  subst hn
  subst hs
  intro p e R s m args below meth c A D g tb S0 QQ hX hE H locs la hP hS hG hL
  exact lv_astore_n hX.1 hX.2.1 d hi (fx_L_has hL) hb rfl (fun la2 h2 => k p e R s m args below meth c A D g tb S0 QQ hX hE H locs la2 hP hS hG (fx_L_s1 (v := .ref x) (fx_cv_cat tb h.1) h2))
theorem fx_astore {i x : Nat} (d : decode M.2.1 pc = .ok (.astore i, 2)) (hb : i < M.2.2.1) (hs : fx_s1 i (.ref x) ls = ls2) (k : fx_V l M B Q c0 s0 n ls2 rest h) (hn : pc + 2 = n := by rfl) : fx_V l M B Q c0 s0 pc ls (.ref x :: rest) h := by
  subst hn
  subst hs
  intro p e R s m args below meth c A D g tb S0 QQ hX hE H locs la hP hS hG hL
  exact lv_astore hX.1 hX.2.1 d (fx_L_has hL) hb rfl (fun la2 h2 => k p e R s m args below meth c A D g tb S0 QQ hX hE H locs la2 hP hS hG (fx_L_s1 (v := .ref x) (fx_cv_cat tb h.1) h2))
theorem fx_iinc {i : Nat} {z x v : Int} (d : decode M.2.1 pc = .ok (.iinc i z, 3)) (hx : ls[i]? = some (some (.int (zI x)))) (hv : x + z = v) (hb : i < M.2.2.1) (hs : fx_s1 i (.int (zI v)) ls = ls2) (k : fx_V l M B Q c0 s0 n ls2 rest h) (hn : pc + 3 = n := by rfl) : fx_V l M B Q c0 s0 pc ls rest h := by
  subst hn
  subst hs
  subst hv
  intro p e R s m args below meth c A D g tb S0 QQ hX hE H locs la hP hS hG hL
  have hm : (i, fx_cv tb h.1 (.int (zI x))) ∈ fx_as (fx_cv tb h.1) 0 ls := (fx_as_mem ls 0 _).mpr ⟨.int (zI x), Nat.zero_le _, by simpa using hx, rfl⟩
  obtain ⟨j, hj⟩ := List.getElem?_of_mem hm
  exact lv_iinc hX.1 hX.2.1 d (fx_L_has hL) hj (zI_add x z) hb rfl (fun la2 h2 => k p e R s m args below meth c A D g tb S0 QQ hX hE H locs la2 hP hS hG (fx_L_s1 (v := .int (zI (x + z))) (fx_cv_cat tb h.1) h2))
theorem fx_iadd {a b : Int} (d : decode M.2.1 pc = .ok (.iadd, 1)) (k : fx_V l M B Q c0 s0 n ls (.int (zI (a + b)) :: rest) h) (hn : pc + 1 = n := by rfl) : fx_V l M B Q c0 s0 pc ls (.int (zI b) :: .int (zI a) :: rest) h := by
  subst hn
  intro p e R s m args below meth c A D g tb S0 QQ hX hE H locs la hP hS hG hL
  have k2 := (k p e R s m args below meth c A D g tb S0 QQ hX hE H locs la hP hS hG hL)
  rw [List.map_cons] at k2
  have hz : fx_cv tb h.1 (.int (zI (a + b))) = .int (zI (a + b)) := rfl
  rw [hz, ← zI_add a b] at k2
  exact lv_iadd hX.1 hX.2.1 d k2
theorem fx_isub {a b : Int} (d : decode M.2.1 pc = .ok (.isub, 1)) (k : fx_V l M B Q c0 s0 n ls (.int (zI (a - b)) :: rest) h) (hn : pc + 1 = n := by rfl) : fx_V l M B Q c0 s0 pc ls (.int (zI b) :: .int (zI a) :: rest) h := by
  subst hn
  intro p e R s m args below meth c A D g tb S0 QQ hX hE H locs la hP hS hG hL
  have k2 := (k p e R s m args below meth c A D g tb S0 QQ hX hE H locs la hP hS hG hL)
  rw [List.map_cons] at k2
  have hz : fx_cv tb h.1 (.int (zI (a - b))) = .int (zI (a - b)) := rfl
  rw [hz, ← zI_sub a b] at k2
  exact lv_isub hX.1 hX.2.1 d k2
theorem fx_imul {a b : Int} (d : decode M.2.1 pc = .ok (.imul, 1)) (k : fx_V l M B Q c0 s0 n ls (.int (zI (a * b)) :: rest) h) (hn : pc + 1 = n := by rfl) : fx_V l M B Q c0 s0 pc ls (.int (zI b) :: .int (zI a) :: rest) h := by
  subst hn
  intro p e R s m args below meth c A D g tb S0 QQ hX hE H locs la hP hS hG hL
  have k2 := (k p e R s m args below meth c A D g tb S0 QQ hX hE H locs la hP hS hG hL)
  rw [List.map_cons] at k2
  have hz : fx_cv tb h.1 (.int (zI (a * b))) = .int (zI (a * b)) := rfl
  rw [hz, ← zI_mul a b] at k2
  exact lv_imul hX.1 hX.2.1 d k2
theorem fx_ineg {a : Int} (d : decode M.2.1 pc = .ok (.ineg, 1)) (k : fx_V l M B Q c0 s0 n ls (.int (zI (-a)) :: rest) h) (hn : pc + 1 = n := by rfl) : fx_V l M B Q c0 s0 pc ls (.int (zI a) :: rest) h := by
  subst hn
  intro p e R s m args below meth c A D g tb S0 QQ hX hE H locs la hP hS hG hL
  have k2 := (k p e R s m args below meth c A D g tb S0 QQ hX hE H locs la hP hS hG hL)
  rw [List.map_cons] at k2
  have hz : fx_cv tb h.1 (.int (zI (-a))) = .int (zI (-a)) := rfl
  rw [hz, ← zI_neg a] at k2
  exact lv_ineg hX.1 hX.2.1 d k2
theorem fx_ladd {a b : Int} (d : decode M.2.1 pc = .ok (.ladd, 1)) (k : fx_V l M B Q c0 s0 n ls (.long (zL (a + b)) :: rest) h) (hn : pc + 1 = n := by rfl) : fx_V l M B Q c0 s0 pc ls (.long (zL b) :: .long (zL a) :: rest) h := by
  subst hn
  intro p e R s m args below meth c A D g tb S0 QQ hX hE H locs la hP hS hG hL
  have k2 := (k p e R s m args below meth c A D g tb S0 QQ hX hE H locs la hP hS hG hL)
  rw [List.map_cons] at k2
  have hz : fx_cv tb h.1 (.long (zL (a + b))) = .long (zL (a + b)) := rfl
  rw [hz, ← zL_add a b] at k2
  exact lv_ladd hX.1 hX.2.1 d k2
theorem fx_lsub {a b : Int} (d : decode M.2.1 pc = .ok (.lsub, 1)) (k : fx_V l M B Q c0 s0 n ls (.long (zL (a - b)) :: rest) h) (hn : pc + 1 = n := by rfl) : fx_V l M B Q c0 s0 pc ls (.long (zL b) :: .long (zL a) :: rest) h := by
  subst hn
  intro p e R s m args below meth c A D g tb S0 QQ hX hE H locs la hP hS hG hL
  have k2 := (k p e R s m args below meth c A D g tb S0 QQ hX hE H locs la hP hS hG hL)
  rw [List.map_cons] at k2
  have hz : fx_cv tb h.1 (.long (zL (a - b))) = .long (zL (a - b)) := rfl
  rw [hz, ← zL_sub a b] at k2
  exact lv_lsub hX.1 hX.2.1 d k2
theorem fx_lmul {a b : Int} (d : decode M.2.1 pc = .ok (.lmul, 1)) (k : fx_V l M B Q c0 s0 n ls (.long (zL (a * b)) :: rest) h) (hn : pc + 1 = n := by rfl) : fx_V l M B Q c0 s0 pc ls (.long (zL b) :: .long (zL a) :: rest) h := by
  subst hn
  intro p e R s m args below meth c A D g tb S0 QQ hX hE H locs la hP hS hG hL
  have k2 := (k p e R s m args below meth c A D g tb S0 QQ hX hE H locs la hP hS hG hL)
  rw [List.map_cons] at k2
  have hz : fx_cv tb h.1 (.long (zL (a * b))) = .long (zL (a * b)) := rfl
  rw [hz, ← zL_mul a b] at k2
  exact lv_lmul hX.1 hX.2.1 d k2
theorem fx_idiv {a b : Int} (d : decode M.2.1 pc = .ok (.idiv, 1)) (ha : 0 ≤ a) (ha2 : zR a) (hb : 0 < b) (hb2 : zR b) (k : fx_V l M B Q c0 s0 n ls (.int (zI (a / b)) :: rest) h) (hn : pc + 1 = n := by rfl) : fx_V l M B Q c0 s0 pc ls (.int (zI b) :: .int (zI a) :: rest) h := by
  subst hn
  intro p e R s m args below meth c A D g tb S0 QQ hX hE H locs la hP hS hG hL
  have k2 := (k p e R s m args below meth c A D g tb S0 QQ hX hE H locs la hP hS hG hL)
  rw [List.map_cons] at k2
  have hz : fx_cv tb h.1 (.int (zI (a / b))) = .int (zI (a / b)) := rfl
  rw [hz, ← zI_div ha ha2 hb hb2] at k2
  exact lv_idiv hX.1 hX.2.1 d (fun hz0 => by have := (zI_eq hb2 zR_0).mp (hz0.trans zI_0.symm); omega) k2
theorem fx_irem {a b : Int} (d : decode M.2.1 pc = .ok (.irem, 1)) (ha : 0 ≤ a) (ha2 : zR a) (hb : 0 < b) (hb2 : zR b) (k : fx_V l M B Q c0 s0 n ls (.int (zI (a % b)) :: rest) h) (hn : pc + 1 = n := by rfl) : fx_V l M B Q c0 s0 pc ls (.int (zI b) :: .int (zI a) :: rest) h := by
  subst hn
  intro p e R s m args below meth c A D g tb S0 QQ hX hE H locs la hP hS hG hL
  have k2 := (k p e R s m args below meth c A D g tb S0 QQ hX hE H locs la hP hS hG hL)
  rw [List.map_cons] at k2
  have hz : fx_cv tb h.1 (.int (zI (a % b))) = .int (zI (a % b)) := rfl
  rw [hz, ← zI_rem ha ha2 hb hb2] at k2
  exact lv_irem hX.1 hX.2.1 d (fun hz0 => by have := (zI_eq hb2 zR_0).mp (hz0.trans zI_0.symm); omega) k2
theorem fx_ishl {a : Int} {j : Nat} (d : decode M.2.1 pc = .ok (.ishl, 1)) (hj : j < 32) (k : fx_V l M B Q c0 s0 n ls (.int (zI (a * 2 ^ j)) :: rest) h) (hn : pc + 1 = n := by rfl) : fx_V l M B Q c0 s0 pc ls (.int (zI (j : Nat)) :: .int (zI a) :: rest) h := by
  subst hn
  intro p e R s m args below meth c A D g tb S0 QQ hX hE H locs la hP hS hG hL
  have k2 := (k p e R s m args below meth c A D g tb S0 QQ hX hE H locs la hP hS hG hL)
  rw [List.map_cons] at k2
  have hz : fx_cv tb h.1 (.int (zI (a * 2 ^ j))) = .int (zI (a * 2 ^ j)) := rfl
  rw [hz, ← zI_shl a hj] at k2
  exact lv_ishl hX.1 hX.2.1 d k2
theorem fx_ishr {a : Int} {j : Nat} (d : decode M.2.1 pc = .ok (.ishr, 1)) (ha : zR a) (hj : j < 32) (k : fx_V l M B Q c0 s0 n ls (.int (zI (a / 2 ^ j)) :: rest) h) (hn : pc + 1 = n := by rfl) : fx_V l M B Q c0 s0 pc ls (.int (zI (j : Nat)) :: .int (zI a) :: rest) h := by
  subst hn
  intro p e R s m args below meth c A D g tb S0 QQ hX hE H locs la hP hS hG hL
  have k2 := (k p e R s m args below meth c A D g tb S0 QQ hX hE H locs la hP hS hG hL)
  rw [List.map_cons] at k2
  have hz : fx_cv tb h.1 (.int (zI (a / 2 ^ j))) = .int (zI (a / 2 ^ j)) := rfl
  rw [hz, ← zI_shr ha hj] at k2
  exact lv_ishr hX.1 hX.2.1 d k2
theorem fx_and1 {a : Int} (d : decode M.2.1 pc = .ok (.iand, 1)) (k : fx_V l M B Q c0 s0 n ls (.int (zI (a % 2)) :: rest) h) (hn : pc + 1 = n := by rfl) : fx_V l M B Q c0 s0 pc ls (.int (zI 1) :: .int (zI a) :: rest) h := by
  subst hn
  intro p e R s m args below meth c A D g tb S0 QQ hX hE H locs la hP hS hG hL
  have k2 := (k p e R s m args below meth c A D g tb S0 QQ hX hE H locs la hP hS hG hL)
  rw [List.map_cons] at k2
  have hz : fx_cv tb h.1 (.int (zI (a % 2))) = .int (zI (a % 2)) := rfl
  rw [hz, ← zI_and1 a] at k2
  exact lv_iand hX.1 hX.2.1 d k2
theorem fx_and15 {a : Int} (d : decode M.2.1 pc = .ok (.iand, 1)) (k : fx_V l M B Q c0 s0 n ls (.int (zI (a % 16)) :: rest) h) (hn : pc + 1 = n := by rfl) : fx_V l M B Q c0 s0 pc ls (.int (zI 15) :: .int (zI a) :: rest) h := by
  subst hn
  intro p e R s m args below meth c A D g tb S0 QQ hX hE H locs la hP hS hG hL
  have k2 := (k p e R s m args below meth c A D g tb S0 QQ hX hE H locs la hP hS hG hL)
  rw [List.map_cons] at k2
  have hz : fx_cv tb h.1 (.int (zI (a % 16))) = .int (zI (a % 16)) := rfl
  rw [hz, ← zI_and15 a] at k2
  exact lv_iand hX.1 hX.2.1 d k2
theorem fx_and255 {a : Int} (d : decode M.2.1 pc = .ok (.iand, 1)) (k : fx_V l M B Q c0 s0 n ls (.int (zI (a % 256)) :: rest) h) (hn : pc + 1 = n := by rfl) : fx_V l M B Q c0 s0 pc ls (.int (zI 255) :: .int (zI a) :: rest) h := by
  subst hn
  intro p e R s m args below meth c A D g tb S0 QQ hX hE H locs la hP hS hG hL
  have k2 := (k p e R s m args below meth c A D g tb S0 QQ hX hE H locs la hP hS hG hL)
  rw [List.map_cons] at k2
  have hz : fx_cv tb h.1 (.int (zI (a % 256))) = .int (zI (a % 256)) := rfl
  rw [hz, ← zI_and255 a] at k2
  exact lv_iand hX.1 hX.2.1 d k2
theorem fx_ior {a b : Int} (d : decode M.2.1 pc = .ok (.ior, 1)) (ha : 0 ≤ a) (ha2 : a < 2147483648) (hb : 0 ≤ b) (hb2 : b < 2147483648) (k : fx_V l M B Q c0 s0 n ls (.int (zI (zor a b)) :: rest) h) (hn : pc + 1 = n := by rfl) : fx_V l M B Q c0 s0 pc ls (.int (zI b) :: .int (zI a) :: rest) h := by
  subst hn
  intro p e R s m args below meth c A D g tb S0 QQ hX hE H locs la hP hS hG hL
  have k2 := (k p e R s m args below meth c A D g tb S0 QQ hX hE H locs la hP hS hG hL)
  rw [List.map_cons] at k2
  have hz : fx_cv tb h.1 (.int (zI (zor a b))) = .int (zI (zor a b)) := rfl
  rw [hz, ← zI_or ha ha2 hb hb2] at k2
  exact lv_ior hX.1 hX.2.1 d k2
theorem fx_lor {a b : Int} (d : decode M.2.1 pc = .ok (.lor, 1)) (ha : 0 ≤ a) (ha2 : a < 4611686018427387904) (hb : 0 ≤ b) (hb2 : b < 4611686018427387904) (k : fx_V l M B Q c0 s0 n ls (.long (zL (zor a b)) :: rest) h) (hn : pc + 1 = n := by rfl) : fx_V l M B Q c0 s0 pc ls (.long (zL b) :: .long (zL a) :: rest) h := by
  subst hn
  intro p e R s m args below meth c A D g tb S0 QQ hX hE H locs la hP hS hG hL
  have k2 := (k p e R s m args below meth c A D g tb S0 QQ hX hE H locs la hP hS hG hL)
  rw [List.map_cons] at k2
  have hz : fx_cv tb h.1 (.long (zL (zor a b))) = .long (zL (zor a b)) := rfl
  rw [hz, ← zL_or ha ha2 hb hb2] at k2
  exact lv_lor hX.1 hX.2.1 d k2
theorem fx_lshl {a : Int} {j : Nat} (d : decode M.2.1 pc = .ok (.lshl, 1)) (hj : j < 64) (k : fx_V l M B Q c0 s0 n ls (.long (zL (a * 2 ^ j)) :: rest) h) (hn : pc + 1 = n := by rfl) : fx_V l M B Q c0 s0 pc ls (.int (zI (j : Nat)) :: .long (zL a) :: rest) h := by
  subst hn
  intro p e R s m args below meth c A D g tb S0 QQ hX hE H locs la hP hS hG hL
  have k2 := (k p e R s m args below meth c A D g tb S0 QQ hX hE H locs la hP hS hG hL)
  rw [List.map_cons] at k2
  have hz : fx_cv tb h.1 (.long (zL (a * 2 ^ j))) = .long (zL (a * 2 ^ j)) := rfl
  rw [hz, ← zL_shl a hj] at k2
  exact lv_lshl hX.1 hX.2.1 d rfl k2
theorem fx_i2l {a : Int} (d : decode M.2.1 pc = .ok (.i2l, 1)) (ha : zR a) (k : fx_V l M B Q c0 s0 n ls (.long (zL a) :: rest) h) (hn : pc + 1 = n := by rfl) : fx_V l M B Q c0 s0 pc ls (.int (zI a) :: rest) h := by
  subst hn
  intro p e R s m args below meth c A D g tb S0 QQ hX hE H locs la hP hS hG hL
  have k2 := (k p e R s m args below meth c A D g tb S0 QQ hX hE H locs la hP hS hG hL)
  rw [List.map_cons] at k2
  have hz : fx_cv tb h.1 (.long (zL a)) = .long (zL a) := rfl
  rw [hz, ← zI_i2l ha] at k2
  exact lv_i2l hX.1 hX.2.1 d rfl k2
theorem fx_l2i {a : Int} (d : decode M.2.1 pc = .ok (.l2i, 1)) (k : fx_V l M B Q c0 s0 n ls (.int (zI a) :: rest) h) (hn : pc + 1 = n := by rfl) : fx_V l M B Q c0 s0 pc ls (.long (zL a) :: rest) h := by
  subst hn
  intro p e R s m args below meth c A D g tb S0 QQ hX hE H locs la hP hS hG hL
  have k2 := (k p e R s m args below meth c A D g tb S0 QQ hX hE H locs la hP hS hG hL)
  rw [List.map_cons] at k2
  have hz : fx_cv tb h.1 (.int (zI a)) = .int (zI a) := rfl
  rw [hz, ← zL_l2i a] at k2
  exact lv_l2i hX.1 hX.2.1 d rfl k2
theorem fx_lcmp {a b : Int} (d : decode M.2.1 pc = .ok (.lcmp, 1)) (ha : zRL a) (hb : zRL b) (k : fx_V l M B Q c0 s0 n ls (.int (zI (zC a b)) :: rest) h) (hn : pc + 1 = n := by rfl) : fx_V l M B Q c0 s0 pc ls (.long (zL b) :: .long (zL a) :: rest) h := by
  subst hn
  intro p e R s m args below meth c A D g tb S0 QQ hX hE H locs la hP hS hG hL
  have k2 := (k p e R s m args below meth c A D g tb S0 QQ hX hE H locs la hP hS hG hL)
  rw [List.map_cons] at k2
  have hz : fx_cv tb h.1 (.int (zI (zC a b))) = .int (zI (zC a b)) := rfl
  rw [hz, ← zL_cmp ha hb] at k2
  exact W.lcmp hX.1 hX.2.1 d k2
theorem fx_dup {v : Value} (d : decode M.2.1 pc = .ok (.dup, 1)) (hv : v.category = 1) (k : fx_V l M B Q c0 s0 n ls (v :: v :: rest) h) (hn : pc + 1 = n := by rfl) : fx_V l M B Q c0 s0 pc ls (v :: rest) h := by
  subst hn
  intro p e R s m args below meth c A D g tb S0 QQ hX hE H locs la hP hS hG hL
  exact lv_dup hX.1 hX.2.1 d ((fx_cv_cat tb h.1 v).trans hv) (k p e R s m args below meth c A D g tb S0 QQ hX hE H locs la hP hS hG hL)
theorem fx_pop {v : Value} (d : decode M.2.1 pc = .ok (.pop, 1)) (hv : v.category = 1) (k : fx_V l M B Q c0 s0 n ls (rest) h) (hn : pc + 1 = n := by rfl) : fx_V l M B Q c0 s0 pc ls (v :: rest) h := by
  subst hn
  intro p e R s m args below meth c A D g tb S0 QQ hX hE H locs la hP hS hG hL
  exact lv_pop hX.1 hX.2.1 d ((fx_cv_cat tb h.1 v).trans hv) (k p e R s m args below meth c A D g tb S0 QQ hX hE H locs la hP hS hG hL)
theorem fx_dup_x1 {v w : Value} (d : decode M.2.1 pc = .ok (.dup_x1, 1)) (hv : v.category = 1) (hw : w.category = 1) (k : fx_V l M B Q c0 s0 n ls (v :: w :: v :: rest) h) (hn : pc + 1 = n := by rfl) : fx_V l M B Q c0 s0 pc ls (v :: w :: rest) h := by
  subst hn
  intro p e R s m args below meth c A D g tb S0 QQ hX hE H locs la hP hS hG hL
  exact lv_dup_x1 hX.1 hX.2.1 d ((fx_cv_cat tb h.1 v).trans hv) ((fx_cv_cat tb h.1 w).trans hw) (k p e R s m args below meth c A D g tb S0 QQ hX hE H locs la hP hS hG hL)
theorem fx_dup2 {v w : Value} (d : decode M.2.1 pc = .ok (.dup2, 1)) (hv : v.category = 1) (hw : w.category = 1) (k : fx_V l M B Q c0 s0 n ls (v :: w :: v :: w :: rest) h) (hn : pc + 1 = n := by rfl) : fx_V l M B Q c0 s0 pc ls (v :: w :: rest) h := by
  subst hn
  intro p e R s m args below meth c A D g tb S0 QQ hX hE H locs la hP hS hG hL
  exact lv_dup2_11 hX.1 hX.2.1 d ((fx_cv_cat tb h.1 v).trans hv) ((fx_cv_cat tb h.1 w).trans hw) (k p e R s m args below meth c A D g tb S0 QQ hX hE H locs la hP hS hG hL)
theorem fx_goto {off : Int} (d : decode M.2.1 pc = .ok (.goto off, 3)) (k : fx_V l M B Q c0 s0 n ls st h) (ht : (pc : Int) + off = (n : Int) := by rfl) : fx_V l M B Q c0 s0 pc ls st h := by
  intro p e R s m args below meth c A D g tb S0 QQ hX hE H locs la hP hS hG hL
  exact lv_goto hX.1 hX.2.1 d ht (k p e R s m args below meth c A D g tb S0 QQ hX hE H locs la hP hS hG hL)
theorem fx_if_eq {a : Int} {off : Int} {t : Nat} (d : decode M.2.1 pc = .ok (.ifCond .eq off, 3)) (ha : zR a) (kt : a = 0 → fx_V l M B Q c0 s0 t ls rest h) (kf : ¬ a = 0 → fx_V l M B Q c0 s0 n ls rest h) (ht : (pc : Int) + off = (t : Int) := by rfl) (hn : pc + 3 = n := by rfl) : fx_V l M B Q c0 s0 pc ls (.int (zI a) :: rest) h := by
  subst hn
  intro p e R s m args below meth c A D g tb S0 QQ hX hE H locs la hP hS hG hL
  exact lv_if_eq hX.1 hX.2.1 d ht (fun z => kt ((zI_eq ha zR_0).mp z) p e R s m args below meth c A D g tb S0 QQ hX hE H locs la hP hS hG hL) (fun z => kf (fun y => z ((zI_eq ha zR_0).mpr y)) p e R s m args below meth c A D g tb S0 QQ hX hE H locs la hP hS hG hL)
theorem fx_icmp_eq {a b : Int} {off : Int} {t : Nat} (d : decode M.2.1 pc = .ok (.if_icmp .eq off, 3)) (ha : zR a) (hb : zR b) (kt : a = b → fx_V l M B Q c0 s0 t ls rest h) (kf : ¬ a = b → fx_V l M B Q c0 s0 n ls rest h) (ht : (pc : Int) + off = (t : Int) := by rfl) (hn : pc + 3 = n := by rfl) : fx_V l M B Q c0 s0 pc ls (.int (zI b) :: .int (zI a) :: rest) h := by
  subst hn
  intro p e R s m args below meth c A D g tb S0 QQ hX hE H locs la hP hS hG hL
  exact lv_icmp_eq hX.1 hX.2.1 d ht (fun z => kt ((zI_eq ha hb).mp z) p e R s m args below meth c A D g tb S0 QQ hX hE H locs la hP hS hG hL) (fun z => kf (fun y => z ((zI_eq ha hb).mpr y)) p e R s m args below meth c A D g tb S0 QQ hX hE H locs la hP hS hG hL)
theorem fx_if_ne {a : Int} {off : Int} {t : Nat} (d : decode M.2.1 pc = .ok (.ifCond .ne off, 3)) (ha : zR a) (kt : ¬ a = 0 → fx_V l M B Q c0 s0 t ls rest h) (kf : a = 0 → fx_V l M B Q c0 s0 n ls rest h) (ht : (pc : Int) + off = (t : Int) := by rfl) (hn : pc + 3 = n := by rfl) : fx_V l M B Q c0 s0 pc ls (.int (zI a) :: rest) h := by
  subst hn
  intro p e R s m args below meth c A D g tb S0 QQ hX hE H locs la hP hS hG hL
  exact lv_if_ne hX.1 hX.2.1 d ht (fun z => kt (fun y => z ((zI_eq ha zR_0).mpr y)) p e R s m args below meth c A D g tb S0 QQ hX hE H locs la hP hS hG hL) (fun z => kf ((zI_eq ha zR_0).mp z) p e R s m args below meth c A D g tb S0 QQ hX hE H locs la hP hS hG hL)
theorem fx_icmp_ne {a b : Int} {off : Int} {t : Nat} (d : decode M.2.1 pc = .ok (.if_icmp .ne off, 3)) (ha : zR a) (hb : zR b) (kt : ¬ a = b → fx_V l M B Q c0 s0 t ls rest h) (kf : a = b → fx_V l M B Q c0 s0 n ls rest h) (ht : (pc : Int) + off = (t : Int) := by rfl) (hn : pc + 3 = n := by rfl) : fx_V l M B Q c0 s0 pc ls (.int (zI b) :: .int (zI a) :: rest) h := by
  subst hn
  intro p e R s m args below meth c A D g tb S0 QQ hX hE H locs la hP hS hG hL
  exact lv_icmp_ne hX.1 hX.2.1 d ht (fun z => kt (fun y => z ((zI_eq ha hb).mpr y)) p e R s m args below meth c A D g tb S0 QQ hX hE H locs la hP hS hG hL) (fun z => kf ((zI_eq ha hb).mp z) p e R s m args below meth c A D g tb S0 QQ hX hE H locs la hP hS hG hL)
theorem fx_if_lt {a : Int} {off : Int} {t : Nat} (d : decode M.2.1 pc = .ok (.ifCond .lt off, 3)) (ha : zR a) (kt : a < 0 → fx_V l M B Q c0 s0 t ls rest h) (kf : ¬ a < 0 → fx_V l M B Q c0 s0 n ls rest h) (ht : (pc : Int) + off = (t : Int) := by rfl) (hn : pc + 3 = n := by rfl) : fx_V l M B Q c0 s0 pc ls (.int (zI a) :: rest) h := by
  subst hn
  intro p e R s m args below meth c A D g tb S0 QQ hX hE H locs la hP hS hG hL
  exact lv_if_lt hX.1 hX.2.1 d ht (fun z => kt ((zI_lt ha zR_0).mp z) p e R s m args below meth c A D g tb S0 QQ hX hE H locs la hP hS hG hL) (fun z => kf (fun y => z ((zI_lt ha zR_0).mpr y)) p e R s m args below meth c A D g tb S0 QQ hX hE H locs la hP hS hG hL)
theorem fx_icmp_lt {a b : Int} {off : Int} {t : Nat} (d : decode M.2.1 pc = .ok (.if_icmp .lt off, 3)) (ha : zR a) (hb : zR b) (kt : a < b → fx_V l M B Q c0 s0 t ls rest h) (kf : ¬ a < b → fx_V l M B Q c0 s0 n ls rest h) (ht : (pc : Int) + off = (t : Int) := by rfl) (hn : pc + 3 = n := by rfl) : fx_V l M B Q c0 s0 pc ls (.int (zI b) :: .int (zI a) :: rest) h := by
  subst hn
  intro p e R s m args below meth c A D g tb S0 QQ hX hE H locs la hP hS hG hL
  exact lv_icmp_lt hX.1 hX.2.1 d ht (fun z => kt ((zI_lt ha hb).mp z) p e R s m args below meth c A D g tb S0 QQ hX hE H locs la hP hS hG hL) (fun z => kf (fun y => z ((zI_lt ha hb).mpr y)) p e R s m args below meth c A D g tb S0 QQ hX hE H locs la hP hS hG hL)
theorem fx_if_ge {a : Int} {off : Int} {t : Nat} (d : decode M.2.1 pc = .ok (.ifCond .ge off, 3)) (ha : zR a) (kt : 0 ≤ a → fx_V l M B Q c0 s0 t ls rest h) (kf : ¬ 0 ≤ a → fx_V l M B Q c0 s0 n ls rest h) (ht : (pc : Int) + off = (t : Int) := by rfl) (hn : pc + 3 = n := by rfl) : fx_V l M B Q c0 s0 pc ls (.int (zI a) :: rest) h := by
  subst hn
  intro p e R s m args below meth c A D g tb S0 QQ hX hE H locs la hP hS hG hL
  exact lv_if_ge hX.1 hX.2.1 d ht (fun z => kt ((zI_le zR_0 ha).mp z) p e R s m args below meth c A D g tb S0 QQ hX hE H locs la hP hS hG hL) (fun z => kf (fun y => z ((zI_le zR_0 ha).mpr y)) p e R s m args below meth c A D g tb S0 QQ hX hE H locs la hP hS hG hL)
theorem fx_icmp_ge {a b : Int} {off : Int} {t : Nat} (d : decode M.2.1 pc = .ok (.if_icmp .ge off, 3)) (ha : zR a) (hb : zR b) (kt : b ≤ a → fx_V l M B Q c0 s0 t ls rest h) (kf : ¬ b ≤ a → fx_V l M B Q c0 s0 n ls rest h) (ht : (pc : Int) + off = (t : Int) := by rfl) (hn : pc + 3 = n := by rfl) : fx_V l M B Q c0 s0 pc ls (.int (zI b) :: .int (zI a) :: rest) h := by
  subst hn
  intro p e R s m args below meth c A D g tb S0 QQ hX hE H locs la hP hS hG hL
  exact lv_icmp_ge hX.1 hX.2.1 d ht (fun z => kt ((zI_le hb ha).mp z) p e R s m args below meth c A D g tb S0 QQ hX hE H locs la hP hS hG hL) (fun z => kf (fun y => z ((zI_le hb ha).mpr y)) p e R s m args below meth c A D g tb S0 QQ hX hE H locs la hP hS hG hL)
theorem fx_if_gt {a : Int} {off : Int} {t : Nat} (d : decode M.2.1 pc = .ok (.ifCond .gt off, 3)) (ha : zR a) (kt : 0 < a → fx_V l M B Q c0 s0 t ls rest h) (kf : ¬ 0 < a → fx_V l M B Q c0 s0 n ls rest h) (ht : (pc : Int) + off = (t : Int) := by rfl) (hn : pc + 3 = n := by rfl) : fx_V l M B Q c0 s0 pc ls (.int (zI a) :: rest) h := by
  subst hn
  intro p e R s m args below meth c A D g tb S0 QQ hX hE H locs la hP hS hG hL
  exact lv_if_gt hX.1 hX.2.1 d ht (fun z => kt ((zI_lt zR_0 ha).mp z) p e R s m args below meth c A D g tb S0 QQ hX hE H locs la hP hS hG hL) (fun z => kf (fun y => z ((zI_lt zR_0 ha).mpr y)) p e R s m args below meth c A D g tb S0 QQ hX hE H locs la hP hS hG hL)
theorem fx_icmp_gt {a b : Int} {off : Int} {t : Nat} (d : decode M.2.1 pc = .ok (.if_icmp .gt off, 3)) (ha : zR a) (hb : zR b) (kt : b < a → fx_V l M B Q c0 s0 t ls rest h) (kf : ¬ b < a → fx_V l M B Q c0 s0 n ls rest h) (ht : (pc : Int) + off = (t : Int) := by rfl) (hn : pc + 3 = n := by rfl) : fx_V l M B Q c0 s0 pc ls (.int (zI b) :: .int (zI a) :: rest) h := by
  subst hn
  intro p e R s m args below meth c A D g tb S0 QQ hX hE H locs la hP hS hG hL
  exact lv_icmp_gt hX.1 hX.2.1 d ht (fun z => kt ((zI_lt hb ha).mp z) p e R s m args below meth c A D g tb S0 QQ hX hE H locs la hP hS hG hL) (fun z => kf (fun y => z ((zI_lt hb ha).mpr y)) p e R s m args below meth c A D g tb S0 QQ hX hE H locs la hP hS hG hL)
theorem fx_if_le {a : Int} {off : Int} {t : Nat} (d : decode M.2.1 pc = .ok (.ifCond .le off, 3)) (ha : zR a) (kt : a ≤ 0 → fx_V l M B Q c0 s0 t ls rest h) (kf : ¬ a ≤ 0 → fx_V l M B Q c0 s0 n ls rest h) (ht : (pc : Int) + off = (t : Int) := by rfl) (hn : pc + 3 = n := by rfl) : fx_V l M B Q c0 s0 pc ls (.int (zI a) :: rest) h := by
  subst hn
  intro p e R s m args below meth c A D g tb S0 QQ hX hE H locs la hP hS hG hL
  exact lv_if_le hX.1 hX.2.1 d ht (fun z => kt ((zI_le ha zR_0).mp z) p e R s m args below meth c A D g tb S0 QQ hX hE H locs la hP hS hG hL) (fun z => kf (fun y => z ((zI_le ha zR_0).mpr y)) p e R s m args below meth c A D g tb S0 QQ hX hE H locs la hP hS hG hL)
theorem fx_icmp_le {a b : Int} {off : Int} {t : Nat} (d : decode M.2.1 pc = .ok (.if_icmp .le off, 3)) (ha : zR a) (hb : zR b) (kt : a ≤ b → fx_V l M B Q c0 s0 t ls rest h) (kf : ¬ a ≤ b → fx_V l M B Q c0 s0 n ls rest h) (ht : (pc : Int) + off = (t : Int) := by rfl) (hn : pc + 3 = n := by rfl) : fx_V l M B Q c0 s0 pc ls (.int (zI b) :: .int (zI a) :: rest) h := by
  subst hn
  intro p e R s m args below meth c A D g tb S0 QQ hX hE H locs la hP hS hG hL
  exact lv_icmp_le hX.1 hX.2.1 d ht (fun z => kt ((zI_le ha hb).mp z) p e R s m args below meth c A D g tb S0 QQ hX hE H locs la hP hS hG hL) (fun z => kf (fun y => z ((zI_le ha hb).mpr y)) p e R s m args below meth c A D g tb S0 QQ hX hE H locs la hP hS hG hL)
theorem fx_tableIn {dflt lo hi off : Int} {offs : Array Int} {len : Nat} {a : Int} (d : decode M.2.1 pc = .ok (.tableswitch dflt lo hi offs, len)) (ha : zR a) (h1 : ¬ a < lo) (h2 : ¬ hi < a) (ho : offs[(a - lo).toNat]? = some off) (k : fx_V l M B Q c0 s0 n ls rest h) (ht : (pc : Int) + off = (n : Int) := by rfl) : fx_V l M B Q c0 s0 pc ls (.int (zI a) :: rest) h := by
  intro p e R s m args below meth c A D g tb S0 QQ hX hE H locs la hP hS hG hL
  have hz := zI_toInt ha
  exact lv_tableIn hX.1 hX.2.1 d (by rw [hz]; exact h1) (by rw [hz]; exact h2) (by rw [hz]; exact ho) ht (k p e R s m args below meth c A D g tb S0 QQ hX hE H locs la hP hS hG hL)
theorem fx_tableOut {dflt lo hi : Int} {offs : Array Int} {len : Nat} {a : Int} (d : decode M.2.1 pc = .ok (.tableswitch dflt lo hi offs, len)) (ha : zR a) (h1 : a < lo ∨ hi < a) (k : fx_V l M B Q c0 s0 n ls rest h) (ht : (pc : Int) + dflt = (n : Int) := by rfl) : fx_V l M B Q c0 s0 pc ls (.int (zI a) :: rest) h := by
  intro p e R s m args below meth c A D g tb S0 QQ hX hE H locs la hP hS hG hL
  have hz := zI_toInt ha
  exact lv_tableOut hX.1 hX.2.1 d (by rw [hz]; exact h1) ht (k p e R s m args below meth c A D g tb S0 QQ hX hE H locs la hP hS hG hL)
theorem fx_lookup {dflt off : Int} {ps : Array (Int × Int)} {len : Nat} {a : Int} (d : decode M.2.1 pc = .ok (.lookupswitch dflt ps, len)) (hp : (ps.toList.zip (ps.toList.drop 1)).all (fun (a, next) => a.1 < next.1) = true) (ha : zR a) (ho : Op.lookupswitch.offset ps.toList dflt a = off) (k : fx_V l M B Q c0 s0 n ls rest h) (ht : (pc : Int) + off = (n : Int) := by rfl) : fx_V l M B Q c0 s0 pc ls (.int (zI a) :: rest) h := by
  intro p e R s m args below meth c A D g tb S0 QQ hX hE H locs la hP hS hG hL
  have hz := zI_toInt ha
  exact lv_lookup hX.1 hX.2.1 d hp (by rw [hz]; exact ho) ht (k p e R s m args below meth c A D g tb S0 QQ hX hE H locs la hP hS hG hL)
theorem fx_fewer (ls2 : List (Option Value)) (hs : fx_sub ls2 ls) (k : fx_V l M B Q c0 s0 pc ls2 st h) : fx_V l M B Q c0 s0 pc ls st h := by
  intro p e R s m args below meth c A D g tb S0 QQ hX hE H locs la hP hS hG hL
  exact k p e R s m args below meth c A D g tb S0 QQ hX hE H locs la hP hS hG ⟨hL.1, hL.2.1, fun i v hi => hL.2.2 i v (fx_sub_at ls2 ls hs i v hi)⟩
theorem fx_end (v : Option Value) (hr : fx_ret M v pc) (hc : c0 ≤ B.1) (hs : s0 ≤ B.2) (hst : st = v.toList) (k : Q v h) : fx_V l M B Q c0 s0 pc ls st h := by
  subst hst
  intro p e R s m args below meth c A D g tb S0 QQ hX hE H locs la hP hS hG hL
  have := hE v h H locs c0 s0 pc la k hP hS hG hc hs hr
  cases v with
  | none => exact this
  | some w => exact this
end FXR
