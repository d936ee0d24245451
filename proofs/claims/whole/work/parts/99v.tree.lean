/-! constructors -/
def uf (F : Nat → Nat → Int) (p k : Nat) (x : Int) : Nat → Nat → Int := fun a b => if a = p ∧ b = k then x else F a b
/-- nothing is written from place n on -/
def zz (F A L : Nat → Nat → Int) (n : Nat) : Prop := ∀ q b, n ≤ q → F q b = 0 ∧ A q b = 0 ∧ L q b = 0
theorem zz.up {F A L : Nat → Nat → Int} {n n2 : Nat} (z : zz F A L n) (h : n ≤ n2) : zz F A L n2 := fun q b hq => z q b (Nat.le_trans h hq)
theorem zz.fF {F A L : Nat → Nat → Int} {n p k : Nat} {x : Int} (z : zz F A L n) (h : p < n) : zz (uf F p k x) A L n := fun q b hq => ⟨by unfold uf; rw [if_neg (by omega)]; exact (z q b hq).1, (z q b hq).2⟩
theorem zz.aA {F A A2 L : Nat → Nat → Int} {n p : Nat} (z : zz F A L n) (h : p < n) (e : ∀ q k, q ≠ p → A2 q k = A q k) : zz F A2 L n := fun q b hq => ⟨(z q b hq).1, by rw [e q b (by omega)]; exact (z q b hq).2.1, (z q b hq).2.2⟩
theorem fx_push_z {W : fx_S} {F A L : Nat → Nat → Int} {x : Nat × fx_Sh} {n : Nat} (hn : W.length = n) (z : zz F A L n) : fx_push (W, F, A, L) x = (W ++ [x], F, A, L) := by
  subst hn
  have h1 := fun b => z W.length b (Nat.le_refl _)
  unfold fx_push
  refine Prod.ext rfl (Prod.ext ?_ (Prod.ext ?_ ?_))
  · funext a b
    show (if a = W.length then 0 else F a b) = F a b
    by_cases e : a = W.length
    · rw [if_pos e, e]; exact (h1 b).1.symm
    · rw [if_neg e]
  · funext a b
    show (if a = W.length then 0 else A a b) = A a b
    by_cases e : a = W.length
    · rw [if_pos e, e]; exact (h1 b).2.1.symm
    · rw [if_neg e]
  · funext a b
    show (if a = W.length then 0 else L a b) = L a b
    by_cases e : a = W.length
    · rw [if_pos e, e]; exact (h1 b).2.2.symm
    · rw [if_neg e]
theorem ez_lengthOf {l : Launch} {Q : Option Value → fx_H → Prop} {h : fx_H}  {u : Int} 
    (H : (fx_V l M_FP_lengthOf (0, 0) Q 0 0 4 [none, some (.int (zI 0)), some (.int (zI u))] [] h)) :
    fx_Mt l M_FP_lengthOf (0, 0) [.int (zI u)] h Q := by
  refine fx_entry (ls := [some (.int (zI u)), none, none]) (by decide) (Nat.le_of_ble_eq_true rfl) rfl ?_
  refine fx_iconst d_FP_lengthOf_0 ?_
  refine fx_istore_n (i := 1) (ls2 := [some (.int (zI u)), some (.int (zI 0)), none]) d_FP_lengthOf_1 rfl (by decide) rfl ?_
  refine fx_iload_n (i := 0) d_FP_lengthOf_2 rfl rfl ?_
  refine fx_istore_n (i := 2) (ls2 := [some (.int (zI u)), some (.int (zI 0)), some (.int (zI u))]) d_FP_lengthOf_3 rfl (by decide) rfl ?_
  exact fx_fewer [none, some (.int (zI 0)), some (.int (zI u))] ⟨rfl, rfl, trivial⟩ H
theorem wz_lengthOf {l : Launch} {Q : Option Value → fx_H → Prop} {h : fx_H}  {x1 : Int} {x2 : Int} 
    (H : zR x2 ∧ ((x2 ≤ 1 → Q (some (.int (zI x1))) h) ∧ (¬ (x2 ≤ 1) → (fx_V l M_FP_lengthOf (0, 0) Q 0 0 4 [none, some (.int (zI (x1 + 1))), some (.int (zI (x2 / 2 ^ 1)))] [] h)))) :
    fx_V l M_FP_lengthOf (0, 0) Q 0 0 4 [none, some (.int (zI x1)), some (.int (zI x2))] [] h := by
  refine fx_iload_n (i := 2) d_FP_lengthOf_4 rfl rfl ?_
  refine fx_iconst d_FP_lengthOf_5 ?_
  obtain ⟨hz1, H⟩ := H
  refine fx_icmp_le (t := 19) (n := 9) d_FP_lengthOf_6 hz1 (show zR 1 by decide) (fun z2 => ?_) (fun z2 => ?_)
  · replace H := H.1 z2
    refine fx_iload_n (i := 1) d_FP_lengthOf_19 rfl rfl ?_
    exact fx_end (some (.int (zI x1))) ⟨⟨_, rfl, rfl⟩, d_FP_lengthOf_20⟩ (Nat.le_refl _) (Nat.le_refl _) rfl H
  · replace H := H.2 z2
    refine fx_iinc (v := x1 + 1) (ls2 := [none, some (.int (zI (x1 + 1))), some (.int (zI x2))]) d_FP_lengthOf_9 rfl rfl (by decide) rfl ?_
    refine fx_iload_n (i := 2) d_FP_lengthOf_12 rfl rfl ?_
    refine fx_iconst d_FP_lengthOf_13 ?_
    refine fx_ishr (j := 1) d_FP_lengthOf_14 hz1 (by decide) ?_
    refine fx_istore_n (i := 2) (ls2 := [none, some (.int (zI (x1 + 1))), some (.int (zI (x2 / 2 ^ 1)))]) d_FP_lengthOf_15 rfl (by decide) rfl ?_
    refine fx_goto (n := 4) d_FP_lengthOf_16 ?_
    exact H
theorem mz_lengthOf {l : Launch} {Q : Option Value → fx_H → Prop} {h : fx_H} {u : Int} (hu : 1 ≤ u) (hu2 : u < 2147483648) (k : Q (some (.int (zI (lg u)))) h) : fx_Mt l M_FP_lengthOf (0, 0) [.int (zI u)] h Q := by
  refine ez_lengthOf ?_
  have loop : ∀ (n : Nat) (x1 x2 : Int), x2.toNat ≤ n → 1 ≤ x2 → x2 < 2147483648 → Q (some (.int (zI (x1 + lg x2)))) h → fx_V l M_FP_lengthOf (0, 0) Q 0 0 4 [none, some (.int (zI x1)), some (.int (zI x2))] [] h := by
    intro n
    induction n with
    | zero => intro x1 x2 h1 h2; omega
    | succ n ih =>
      intro x1 x2 h1 h2 h3 k
      refine wz_lengthOf ⟨by omega, fun z => ?_, fun z => ?_⟩
      · have : x2 = 1 := by omega
        subst this
        rw [lg_1, Int.add_zero] at k
        exact k
      · refine ih _ _ (by omega) (by omega) (by omega) ?_
        rw [lg_step (by omega)] at k
        rw [show x1 + 1 + lg (x2 / 2 ^ 1) = x1 + (lg (x2 / 2 ^ 1) + 1) by omega]
        exact k
  refine loop u.toNat 0 u (Nat.le_refl _) hu hu2 ?_
  rw [Int.zero_add]
  exact k
theorem lg_31 {u : Int} (h2 : u < 2147483648) : 0 ≤ lg u ∧ lg u ≤ 31 := by
  unfold lg
  have : u.toNat.log2 ≤ 31 := by
    by_cases e : u.toNat = 0
    · rw [e]; decide
    · exact Nat.le_of_lt_succ ((Nat.log2_lt e).mpr (by omega))
  omega
theorem ez_fill {l : Launch} {Q : Option Value → fx_H → Prop} {h : fx_H}  {x : Int} {y : Int} {z : Int} {u : Int} {w : Int} {s : Int} {n : Int}  {b1 b2 : Nat} (h31 : h.1[31]? = some (b1, .inl (11, [none, none, none, none, some 32, none, some 33, none, none, none, none, none, none, none, none, none, none, some 34, none, none, none, none, none, some 35, some 36, some 37, some 38, none, none, some 39, some 40, some 41, some 42, some 43, some 44, some 45, some 46]))) (h35 : h.1[35]? = some (b2, .inr (0, 84)))
    (H : 0 ≤ x ∧ x < 84 ∧ 0 ≤ (x + 1) ∧ (x + 1) < 84 ∧ 0 ≤ (x + 2) ∧ (x + 2) < 84 ∧ 0 ≤ (x + 3) ∧ (x + 3) < 84 ∧ zR (x + 4) ∧ ((82 ≤ (x + 4) → Q none (fx_uA (fx_uA (fx_uA (fx_uA h 35 (x.toNat) y) 35 ((x + 1).toNat) z) 35 ((x + 2).toNat) u) 35 ((x + 3).toNat) w)) ∧ (¬ (82 ≤ (x + 4)) → 0 ≤ (x + 4) ∧ (x + 4) < 84 ∧ 0 ≤ (x + 5) ∧ (x + 5) < 84 ∧ Q none (fx_uA (fx_uA (fx_uA (fx_uA (fx_uA (fx_uA h 35 (x.toNat) y) 35 ((x + 1).toNat) z) 35 ((x + 2).toNat) u) 35 ((x + 3).toNat) w) 35 ((x + 4).toNat) s) 35 ((x + 5).toNat) n)))) :
    fx_Mt l M_MO_fill (0, 0) [.ref 31, .int (zI x), .int (zI y), .int (zI z), .int (zI u), .int (zI w), .int (zI s), .int (zI n)] h Q := by
  refine fx_entry (ls := [some (.ref 31), some (.int (zI x)), some (.int (zI y)), some (.int (zI z)), some (.int (zI u)), some (.int (zI w)), some (.int (zI s)), some (.int (zI n))]) (by decide) (Nat.le_of_ble_eq_true rfl) rfl ?_
  refine fx_aload_n (i := 0) d_MO_fill_0 rfl rfl ?_
  refine fx_getR (q := 35) d_MO_fill_1 lk_MO_38 h31 rfl rfl ?_
  refine fx_iload_n (i := 1) d_MO_fill_4 rfl rfl ?_
  refine fx_iload_n (i := 2) d_MO_fill_5 rfl rfl ?_
  obtain ⟨hn1, H⟩ := H
  obtain ⟨hn2, H⟩ := H
  refine fx_iast d_MO_fill_6 h35 hn1 hn2 (by decide) ?_
  refine fx_aload_n (i := 0) d_MO_fill_7 rfl rfl ?_
  refine fx_getR (q := 35) d_MO_fill_8 lk_MO_38 h31 rfl rfl ?_
  refine fx_iload_n (i := 1) d_MO_fill_11 rfl rfl ?_
  refine fx_iconst d_MO_fill_12 ?_
  refine fx_iadd d_MO_fill_13 ?_
  refine fx_iload_n (i := 3) d_MO_fill_14 rfl rfl ?_
  obtain ⟨hn3, H⟩ := H
  obtain ⟨hn4, H⟩ := H
  refine fx_iast d_MO_fill_15 h35 hn3 hn4 (by decide) ?_
  refine fx_aload_n (i := 0) d_MO_fill_16 rfl rfl ?_
  refine fx_getR (q := 35) d_MO_fill_17 lk_MO_38 h31 rfl rfl ?_
  refine fx_iload_n (i := 1) d_MO_fill_20 rfl rfl ?_
  refine fx_iconst d_MO_fill_21 ?_
  refine fx_iadd d_MO_fill_22 ?_
  refine fx_iload d_MO_fill_23 rfl ?_
  obtain ⟨hn5, H⟩ := H
  obtain ⟨hn6, H⟩ := H
  refine fx_iast d_MO_fill_25 h35 hn5 hn6 (by decide) ?_
  refine fx_aload_n (i := 0) d_MO_fill_26 rfl rfl ?_
  refine fx_getR (q := 35) d_MO_fill_27 lk_MO_38 h31 rfl rfl ?_
  refine fx_iload_n (i := 1) d_MO_fill_30 rfl rfl ?_
  refine fx_iconst d_MO_fill_31 ?_
  refine fx_iadd d_MO_fill_32 ?_
  refine fx_iload d_MO_fill_33 rfl ?_
  obtain ⟨hn7, H⟩ := H
  obtain ⟨hn8, H⟩ := H
  refine fx_iast d_MO_fill_35 h35 hn7 hn8 (by decide) ?_
  refine fx_iload_n (i := 1) d_MO_fill_36 rfl rfl ?_
  refine fx_iconst d_MO_fill_37 ?_
  refine fx_iadd d_MO_fill_38 ?_
  refine fx_bipush (v := 82) d_MO_fill_39 rfl ?_
  obtain ⟨hz9, H⟩ := H
  refine fx_icmp_ge (t := 64) (n := 44) d_MO_fill_41 hz9 (show zR 82 by decide) (fun z10 => ?_) (fun z10 => ?_)
  · replace H := H.1 z10
    exact fx_end none ⟨rfl, d_MO_fill_64⟩ (Nat.le_refl _) (Nat.le_refl _) rfl H
  · replace H := H.2 z10
    refine fx_aload_n (i := 0) d_MO_fill_44 rfl rfl ?_
    refine fx_getR (q := 35) d_MO_fill_45 lk_MO_38 h31 rfl rfl ?_
    refine fx_iload_n (i := 1) d_MO_fill_48 rfl rfl ?_
    refine fx_iconst d_MO_fill_49 ?_
    refine fx_iadd d_MO_fill_50 ?_
    refine fx_iload d_MO_fill_51 rfl ?_
    obtain ⟨hn11, H⟩ := H
    obtain ⟨hn12, H⟩ := H
    refine fx_iast d_MO_fill_53 h35 hn11 hn12 (by decide) ?_
    refine fx_aload_n (i := 0) d_MO_fill_54 rfl rfl ?_
    refine fx_getR (q := 35) d_MO_fill_55 lk_MO_38 h31 rfl rfl ?_
    refine fx_iload_n (i := 1) d_MO_fill_58 rfl rfl ?_
    refine fx_iconst d_MO_fill_59 ?_
    refine fx_iadd d_MO_fill_60 ?_
    refine fx_iload d_MO_fill_61 rfl ?_
    obtain ⟨hn13, H⟩ := H
    obtain ⟨hn14, H⟩ := H
    refine fx_iast d_MO_fill_63 h35 hn13 hn14 (by decide) ?_
    exact fx_end none ⟨rfl, d_MO_fill_64⟩ (Nat.le_refl _) (Nat.le_refl _) rfl H
/-! the code trees -/
/-- only the ints of one array have changed -/
def smA (p : Nat) (h h2 : fx_H) : Prop := h2.1 = h.1 ∧ h2.2.1 = h.2.1 ∧ h2.2.2.2 = h.2.2.2 ∧ ∀ q k, q ≠ p → h2.2.2.1 q k = h.2.2.1 q k
theorem smA.rf {p : Nat} {h : fx_H} : smA p h h := ⟨rfl, rfl, rfl, fun _ _ _ => rfl⟩
theorem smA.tr {p : Nat} {h h2 h3 : fx_H} (a : smA p h h2) (b : smA p h2 h3) : smA p h h3 := ⟨b.1.trans a.1, b.2.1.trans a.2.1, b.2.2.1.trans a.2.2.1, fun q k hq => (b.2.2.2 q k hq).trans (a.2.2.2 q k hq)⟩
theorem smA.uA {p k : Nat} {x : Int} {h : fx_H} : smA p h (fx_uA h p k x) := ⟨rfl, rfl, rfl, fun q j hq => if_neg (fun z => hq z.1)⟩
def ctS (i : Int) (j : Nat) (W : List Int) (n : Int) (x : Nat) : List Int × Int := if j = 0 then (W.set x (-1 - i), n) else if W.getD x 0 = 0 ∧ n < 60 then (W.set x n, n + 1) else (W, n)
def ctX (c node : Int) (j : Nat) : Nat := (2 * node + c / 2 ^ j % 2).toNat
def ctI (c i : Int) : Nat → List Int → Int → Int → List Int × Int
  | 0, W, n, _ => (W, n)
  | j + 1, W, n, node => match ctS i j W n (ctX c node j) with
    | (W2, n2) => ctI c i j W2 n2 (if W2.getD (ctX c node j) 0 < 0 then 0 else W2.getD (ctX c node j) 0)
def ctC (c i : Int) (s : List Int × Int) : List Int × Int := ctI c i (lg c).toNat s.1 s.2 0
def ctT : List Int → Int → List Int × Int → List Int × Int
  | [], _, s => s
  | c :: cs, i, s => ctT cs (i + 1) (ctC c i s)
theorem ct_W : (ctT fx_tWR 0 (List.replicate 120 0, 1)).1 = trW := by decide +kernel
theorem ct_B : (ctT fx_tBL 0 (List.replicate 120 0, 1)).1 = trB := by decide +kernel
theorem ct_M : (ctT fx_tMD 0 (List.replicate 120 0, 1)).1 = trM := by decide +kernel
def ctB (W : List Int) (n : Int) : Prop := W.length = 120 ∧ (∀ k : Nat, -100 ≤ W.getD k 0 ∧ W.getD k 0 < 60) ∧ 1 ≤ n ∧ n ≤ 60
def ctH (h : fx_H) (p : Nat) (W : List Int) : Prop := ∀ k : Nat, k < 120 → h.2.2.1 p k = W.getD k 0
theorem ct_gs {W : List Int} {x k : Nat} {v : Int} (hx : x < W.length) : (W.set x v).getD k 0 = if k = x then v else W.getD k 0 := by
  rw [List.getD_eq_getElem?_getD, List.getElem?_set]
  by_cases e : x = k
  · subst e; simp [hx]
  · rw [if_neg e, if_neg (fun z => e z.symm), List.getD_eq_getElem?_getD]
theorem ctH.set {h : fx_H} {p x : Nat} {v : Int} {W : List Int} (c : ctH h p W) (hx : x < W.length) : ctH (fx_uA h p x v) p (W.set x v) := fun k hk => by
  rw [ct_gs hx]
  show (if p = p ∧ k = x then v else h.2.2.1 p k) = _
  by_cases e : k = x
  · rw [if_pos ⟨rfl, e⟩, if_pos e]
  · rw [if_neg (fun z => e z.2), if_neg e]; exact c k hk
theorem ctB.set {W : List Int} {n v : Int} {x : Nat} (c : ctB W n) (hx : x < W.length) (hv : -100 ≤ v ∧ v < 60) : ctB (W.set x v) n := by
  refine ⟨by rw [List.length_set]; exact c.1, fun k => ?_, c.2.2⟩
  rw [ct_gs hx]
  by_cases e : k = x
  · rw [if_pos e]; exact hv
  · rw [if_neg e]; exact c.2.1 k
section CTT
variable {l : Launch} {B : Nat × Nat} {Q : Option Value → fx_H → Prop} {c0 s0 q p b1 b2 k0 N : Nat} {nm : String} {f : Nat → Int} {i : Int}
theorem ct_in (hk : fx_tabs[k0]? = some (nm, N, f)) (hN : N < 100) (hi : 0 ≤ i ∧ i < N) (hc : 1 ≤ f i.toNat ∧ f i.toNat < 2147483648) (hB : c0 ≤ B.1 ∧ s0 ≤ B.2) : ∀ (J : Nat) (W : List Int) (n node jv : Int) (h : fx_H), J ≤ 31 → jv = (J : Int) - 1 → h.1[q]? = some (b1, .inl (4, [some p])) → h.1[p]? = some (b2, .inr (0, 120)) → ctH h p W → ctB W n → 0 ≤ node ∧ node < 60 →
    (∀ (h2 : fx_H) (n2 : Int) (W2 : List Int), (W2, n2) = ctI (f i.toNat) i J W n node → smA p h h2 → ctH h2 p W2 → ctB W2 n2 → fx_V l M_CT_init B Q c0 s0 119 [some (.ref q), some (.ref (1000 + k0)), some (.int (zI n2)), some (.int (zI i)), none, none, none] [] h2) →
    fx_V l M_CT_init B Q c0 s0 35 [some (.ref q), some (.ref (1000 + k0)), some (.int (zI n)), some (.int (zI i)), some (.int (zI node)), some (.int (zI jv)), none] [] h := by
  intro J
  induction J with
  | zero =>
    intro W n node jv h hJ hj hq hp cH cB hn k
    subst hj
    refine fx_iload (i := 5) d_CT_init_35 rfl ?_
    refine fx_if_lt (t := 119) (n := 40) d_CT_init_37 (by omega) (fun _ => ?_) (fun z => by omega)
    exact fx_fewer [some (.ref q), some (.ref (1000 + k0)), some (.int (zI n)), some (.int (zI i)), none, none, none] ⟨rfl, rfl, rfl, rfl, trivial⟩ (k h n W rfl smA.rf cH cB)
  | succ J ih =>
    intro W n node jv h hJ hj hq hp cH cB hn k
    have hj2 : jv = ((J : Nat) : Int) := by omega
    subst hj2
    have hc2 : 0 ≤ f i.toNat / 2 ^ J % 2 ∧ f i.toNat / 2 ^ J % 2 < 2 := ⟨Int.emod_nonneg _ (by decide), Int.emod_lt_of_pos _ (by decide)⟩
    have hx0 : 0 ≤ 2 * node + f i.toNat / 2 ^ J % 2 ∧ 2 * node + f i.toNat / 2 ^ J % 2 < 120 := by omega
    have hxl : ctX (f i.toNat) node J < W.length := by rw [cB.1]; unfold ctX; omega
    refine fx_iload (i := 5) d_CT_init_35 rfl ?_
    refine fx_if_lt (t := 119) (n := 40) d_CT_init_37 (by omega) (fun z => by omega) (fun _ => ?_)
    refine fx_iconst d_CT_init_40 ?_
    refine fx_iload (i := 4) d_CT_init_41 rfl ?_
    refine fx_imul d_CT_init_43 ?_
    refine fx_aload_n (i := 1) d_CT_init_44 rfl rfl ?_
    refine fx_iload_n (i := 3) d_CT_init_45 rfl rfl ?_
    refine fx_tald d_CT_init_46 hk hi.1 hi.2 (by omega) ?_
    refine fx_iload (i := 5) d_CT_init_47 rfl ?_
    refine fx_ishr (j := J) d_CT_init_49 (by omega) (by omega) ?_
    refine fx_iconst d_CT_init_50 ?_
    refine fx_and1 d_CT_init_51 ?_
    refine fx_iadd d_CT_init_52 ?_
    refine fx_istore (i := 6) (ls2 := [some (.ref q), some (.ref (1000 + k0)), some (.int (zI n)), some (.int (zI i)), some (.int (zI node)), some (.int (zI (J : Nat))), some (.int (zI (2 * node + f i.toNat / 2 ^ J % 2)))]) d_CT_init_53 (by decide) rfl ?_
    refine fx_iload (i := 5) d_CT_init_55 rfl ?_
    -- what stands behind the two ways
    have join : ∀ (W2 : List Int) (n2 : Int) (h2 : fx_H), (W2, n2) = ctS i J W n (ctX (f i.toNat) node J) → smA p h h2 → ctH h2 p W2 → ctB W2 n2 →
        fx_V l M_CT_init B Q c0 s0 100 [some (.ref q), some (.ref (1000 + k0)), some (.int (zI n2)), some (.int (zI i)), some (.int (zI node)), some (.int (zI (J : Nat))), some (.int (zI (2 * node + f i.toNat / 2 ^ J % 2)))] [] h2 := by
      intro W2 n2 h2 e2 m2 cH2 cB2
      have hq2 : h2.1[q]? = some (b1, .inl (4, [some p])) := by rw [m2.1]; exact hq
      have hp2 : h2.1[p]? = some (b2, .inr (0, 120)) := by rw [m2.1]; exact hp
      have hv := cB2.2.1 (ctX (f i.toNat) node J)
      have hvv : h2.2.2.1 p (2 * node + f i.toNat / 2 ^ J % 2).toNat = W2.getD (ctX (f i.toNat) node J) 0 := cH2 _ (by omega)
      refine fx_aload_n (i := 0) d_CT_init_100 rfl rfl ?_
      refine fx_getR (q := p) d_CT_init_101 lk_CT_9 hq2 rfl rfl ?_
      refine fx_iload (i := 6) d_CT_init_104 rfl ?_
      refine fx_iald d_CT_init_106 hp2 hx0.1 hx0.2 (by decide) ?_
      rw [hvv]
      refine fx_iconst d_CT_init_107 ?_
      refine fx_max d_CT_init_108 mm_CT_19 mw_max_s mw_i mw_max_c ⟨by decide, by decide⟩ (Nat.le_of_ble_eq_true rfl) hB (by omega) (show zR 0 by decide) ?_
      refine fx_istore (i := 4) (ls2 := [some (.ref q), some (.ref (1000 + k0)), some (.int (zI n2)), some (.int (zI i)), some (.int (zI (if W2.getD (ctX (f i.toNat) node J) 0 < 0 then 0 else W2.getD (ctX (f i.toNat) node J) 0))), some (.int (zI (J : Nat))), some (.int (zI (2 * node + f i.toNat / 2 ^ J % 2)))]) d_CT_init_111 (by decide) rfl ?_
      refine fx_iinc (v := (J : Int) + -1) (ls2 := [some (.ref q), some (.ref (1000 + k0)), some (.int (zI n2)), some (.int (zI i)), some (.int (zI (if W2.getD (ctX (f i.toNat) node J) 0 < 0 then 0 else W2.getD (ctX (f i.toNat) node J) 0))), some (.int (zI ((J : Int) + -1))), some (.int (zI (2 * node + f i.toNat / 2 ^ J % 2)))]) d_CT_init_113 rfl rfl (by decide) rfl ?_
      refine fx_goto (n := 35) d_CT_init_116 ?_
      refine fx_fewer [some (.ref q), some (.ref (1000 + k0)), some (.int (zI n2)), some (.int (zI i)), some (.int (zI (if W2.getD (ctX (f i.toNat) node J) 0 < 0 then 0 else W2.getD (ctX (f i.toNat) node J) 0))), some (.int (zI ((J : Int) + -1))), none] ⟨rfl, rfl, rfl, rfl, rfl, rfl, trivial⟩ ?_
      refine ih W2 n2 _ ((J : Int) + -1) h2 (by omega) (by omega) hq2 hp2 cH2 cB2 (by split <;> omega) fun h3 n3 W3 e3 m3 cH3 cB3 => k h3 n3 W3 ?_ (m2.tr m3) cH3 cB3
      rw [e3]
      show _ = (match ctS i J W n (ctX (f i.toNat) node J) with
        | (W2, n2) => ctI (f i.toNat) i J W2 n2 (if W2.getD (ctX (f i.toNat) node J) 0 < 0 then 0 else W2.getD (ctX (f i.toNat) node J) 0))
      rw [← e2]
    refine fx_if_ne (t := 73) (n := 60) d_CT_init_57 (by omega) (fun z1 => ?_) (fun z1 => ?_)
    · have hvv : h.2.2.1 p (2 * node + f i.toNat / 2 ^ J % 2).toNat = W.getD (ctX (f i.toNat) node J) 0 := cH _ (by omega)
      have hv := cB.2.1 (ctX (f i.toNat) node J)
      have hnn := cB.2.2
      refine fx_aload_n (i := 0) d_CT_init_73 rfl rfl ?_
      refine fx_getR (q := p) d_CT_init_74 lk_CT_9 hq rfl rfl ?_
      refine fx_iload (i := 6) d_CT_init_77 rfl ?_
      refine fx_iald d_CT_init_79 hp hx0.1 hx0.2 (by decide) ?_
      rw [hvv]
      refine fx_if_ne (t := 100) (n := 83) d_CT_init_80 (by omega) (fun z2 => ?_) (fun z2 => ?_)
      · exact join W n h (by unfold ctS; rw [if_neg (by omega), if_neg (fun y => z2 y.1)]) smA.rf cH cB
      · refine fx_iload_n (i := 2) d_CT_init_83 rfl rfl ?_
        refine fx_bipush (v := 60) d_CT_init_84 rfl ?_
        refine fx_icmp_ge (t := 100) (n := 89) d_CT_init_86 (by omega) (show zR 60 by decide) (fun z3 => ?_) (fun z3 => ?_)
        · exact join W n h (by unfold ctS; rw [if_neg (by omega), if_neg (fun y => absurd y.2 (by omega))]) smA.rf cH cB
        · refine fx_aload_n (i := 0) d_CT_init_89 rfl rfl ?_
          refine fx_getR (q := p) d_CT_init_90 lk_CT_9 hq rfl rfl ?_
          refine fx_iload (i := 6) d_CT_init_93 rfl ?_
          refine fx_iload_n (i := 2) d_CT_init_95 rfl rfl ?_
          refine fx_iast d_CT_init_96 hp hx0.1 hx0.2 (by decide) ?_
          refine fx_iinc (v := n + 1) (ls2 := [some (.ref q), some (.ref (1000 + k0)), some (.int (zI (n + 1))), some (.int (zI i)), some (.int (zI node)), some (.int (zI (J : Nat))), some (.int (zI (2 * node + f i.toNat / 2 ^ J % 2)))]) d_CT_init_97 rfl rfl (by decide) rfl ?_
          have cB3 : ctB (W.set (ctX (f i.toNat) node J) n) n := cB.set hxl (by omega)
          exact join (W.set (ctX (f i.toNat) node J) n) (n + 1) _ (by unfold ctS; rw [if_neg (by omega), if_pos ⟨z2, by omega⟩]) smA.uA (cH.set hxl) ⟨cB3.1, cB3.2.1, by omega, by omega⟩
    · refine fx_aload_n (i := 0) d_CT_init_60 rfl rfl ?_
      refine fx_getR (q := p) d_CT_init_61 lk_CT_9 hq rfl rfl ?_
      refine fx_iload (i := 6) d_CT_init_64 rfl ?_
      refine fx_iconst d_CT_init_66 ?_
      refine fx_iload_n (i := 3) d_CT_init_67 rfl rfl ?_
      refine fx_isub d_CT_init_68 ?_
      refine fx_iast d_CT_init_69 hp hx0.1 hx0.2 (by decide) ?_
      refine fx_goto (n := 100) d_CT_init_70 ?_
      exact join (W.set (ctX (f i.toNat) node J) (-1 - i)) n _ (by unfold ctS; rw [if_pos (by omega)]) smA.uA (cH.set hxl) (cB.set hxl (by omega))
/-- all codes -/
theorem ct_out (hk : fx_tabs[k0]? = some (nm, N, f)) (hN : N < 100) (hc : ∀ m : Nat, m < N → 1 ≤ f m ∧ f m < 2147483648) (hB : c0 ≤ B.1 ∧ s0 ≤ B.2) : ∀ (T : List Int) (i n : Int) (W : List Int) (h : fx_H), 0 ≤ i → i + T.length = N → (∀ m : Nat, m < T.length → T.getD m 0 = f (i.toNat + m)) → h.1[q]? = some (b1, .inl (4, [some p])) → h.1[p]? = some (b2, .inr (0, 120)) → ctH h p W → ctB W n →
    (∀ (h2 : fx_H) (n2 : Int) (W2 : List Int), (W2, n2) = ctT T i (W, n) → smA p h h2 → ctH h2 p W2 → Q none h2) →
    fx_V l M_CT_init B Q c0 s0 16 [some (.ref q), some (.ref (1000 + k0)), some (.int (zI n)), some (.int (zI i)), none, none, none] [] h := by
  intro T
  induction T with
  | nil =>
    intro i n W h h0 hl hT hq hp cH cB k
    have hl2 : i = N := by simpa using hl
    refine fx_iload_n (i := 3) d_CT_init_16 rfl rfl ?_
    refine fx_aload_n (i := 1) d_CT_init_17 rfl rfl ?_
    refine fx_tlen (v := (N : Int)) d_CT_init_18 hk rfl ?_
    refine fx_icmp_ge (t := 125) (n := 22) d_CT_init_19 (by omega) (by omega) (fun _ => ?_) (fun z => by omega)
    exact fx_end none ⟨rfl, d_CT_init_125⟩ hB.1 hB.2 rfl (k h n W rfl smA.rf cH)
  | cons c T ih =>
    intro i n W h h0 hl hT hq hp cH cB k
    have hl2 : i + (T.length : Int) + 1 = N := by rw [List.length_cons] at hl; omega
    have hci := hc i.toNat (by omega)
    have ec : f i.toNat = c := by have := hT 0 (by simp); simpa using this.symm
    have hnn := cB.2.2
    refine fx_iload_n (i := 3) d_CT_init_16 rfl rfl ?_
    refine fx_aload_n (i := 1) d_CT_init_17 rfl rfl ?_
    refine fx_tlen (v := (N : Int)) d_CT_init_18 hk rfl ?_
    refine fx_icmp_ge (t := 125) (n := 22) d_CT_init_19 (by omega) (by omega) (fun z => by omega) (fun _ => ?_)
    refine fx_iconst d_CT_init_22 ?_
    refine fx_istore (i := 4) (ls2 := [some (.ref q), some (.ref (1000 + k0)), some (.int (zI n)), some (.int (zI i)), some (.int (zI 0)), none, none]) d_CT_init_23 (by decide) rfl ?_
    refine fx_aload_n (i := 1) d_CT_init_25 rfl rfl ?_
    refine fx_iload_n (i := 3) d_CT_init_26 rfl rfl ?_
    refine fx_tald d_CT_init_27 hk h0 (by omega) (by omega) ?_
    refine fx_callS (M' := M_FP_lengthOf) (B' := (0, 0)) (vs := [.int (zI (f i.toNat))]) (rest := []) (c1 := c0) (s1 := s0) (n := 31) d_CT_init_28 ca_CT_init_13 rfl rfl hB (Nat.le_of_ble_eq_true rfl) (Or.inl rfl) (mz_lengthOf hci.1 hci.2 ?_)
    refine fx_iconst d_CT_init_31 ?_
    refine fx_isub d_CT_init_32 ?_
    have hlg : 0 ≤ lg (f i.toNat) ∧ lg (f i.toNat) ≤ 31 := lg_31 hci.2
    refine fx_istore (i := 5) (ls2 := [some (.ref q), some (.ref (1000 + k0)), some (.int (zI n)), some (.int (zI i)), some (.int (zI 0)), some (.int (zI (lg (f i.toNat) - 1))), none]) d_CT_init_33 (by decide) rfl ?_
    refine ct_in hk hN ⟨h0, by omega⟩ hci hB (lg (f i.toNat)).toNat W n 0 (lg (f i.toNat) - 1) h (by omega) (by omega) hq hp cH cB (by omega) fun h2 n2 W2 e2 m2 cH2 cB2 => ?_
    have hq2 : h2.1[q]? = some (b1, .inl (4, [some p])) := by rw [m2.1]; exact hq
    have hp2 : h2.1[p]? = some (b2, .inr (0, 120)) := by rw [m2.1]; exact hp
    refine fx_iinc (v := i + 1) (ls2 := [some (.ref q), some (.ref (1000 + k0)), some (.int (zI n2)), some (.int (zI (i + 1))), none, none, none]) d_CT_init_119 rfl rfl (by decide) rfl ?_
    refine fx_goto (n := 16) d_CT_init_122 ?_
    refine ih (i + 1) n2 W2 h2 (by omega) (by omega) (fun m hm => ?_) hq2 hp2 cH2 cB2 fun h3 n3 W3 e3 m3 cH3 => k h3 n3 W3 ?_ (m2.tr m3) cH3
    · have := hT (m + 1) (by rw [List.length_cons]; omega)
      rw [List.getD_cons_succ] at this
      rw [this]
      congr 1
      omega
    · rw [e3, e2, ec]
      rfl
end CTT
