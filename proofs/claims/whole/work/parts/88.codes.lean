/-! codes told from the bits that come -/
/-- the last of the first n places that holds u; -1 if none does -/
def idx (T : List Int) (u : Int) : Nat → Int
  | 0 => -1
  | n + 1 => if T.getD n 0 = u then (n : Int) else idx T u n
/-- the code that comes at p, and where it ends -/
def rd (T : List Int) (L : List Int) (e : Int) : Nat → Int → Int → Option (Int × Int)
  | 0, _, _ => none
  | m + 1, u, p => if p < e then (if idx T (2 * u + bt L p) T.length < 0 then rd T L e m (2 * u + bt L p) (p + 1) else some (idx T (2 * u + bt L p) T.length, p + 1)) else none
def TC (c : Int) : List Int := if c = 0 then fx_tWR else fx_tBL
theorem idx_R (T : List Int) (u : Int) : ∀ n : Nat, -1 ≤ idx T u n ∧ idx T u n < n
  | 0 => by simp [idx]
  | n + 1 => by
    have := idx_R T u n
    unfold idx
    split <;> omega
theorem idx_none {T : List Int} {u : Int} : ∀ {n : Nat}, (∀ i : Nat, i < n → ¬ T.getD i 0 = u) → idx T u n = -1
  | 0, _ => rfl
  | n + 1, h => by
    unfold idx
    rw [if_neg (h n (by omega))]
    exact idx_none fun i hi => h i (by omega)
theorem rd_R {T L : List Int} {e : Int} : ∀ {m : Nat} {u p i q : Int}, rd T L e m u p = some (i, q) → 0 ≤ i ∧ i < T.length ∧ p < q ∧ q ≤ e
  | 0, u, p, i, q, h => by simp [rd] at h
  | m + 1, u, p, i, q, h => by
    unfold rd at h
    have hr := idx_R T (2 * u + bt L p) T.length
    split at h
    · split at h
      · have := rd_R h; omega
      · injection h with h
        injection h with h1 h2
        omega
    · exact absurd h (by simp)
/-- no code begins so -/
def dead (T : List Int) (u : Int) : Prop := ∀ i : Nat, i < T.length → ∀ k : Nat, k < 13 → ¬ T.getD i 0 / 2 ^ k = u
theorem dead_step {T : List Int} {u r : Int} {K : Nat} (h : ∀ i : Nat, i < T.length → ∀ k : Nat, k < K + 1 → ¬ T.getD i 0 / 2 ^ k = u) (hr : r = 0 ∨ r = 1) : ∀ i : Nat, i < T.length → ∀ k : Nat, k < K → ¬ T.getD i 0 / 2 ^ k = 2 * u + r := by
  intro i hi k hk z
  refine h i hi (k + 1) (by omega) ?_
  rw [Int.pow_succ, ← Int.ediv_ediv_of_nonneg (by have := two_pow_pos k; omega), z]
  omega
theorem rd_none {T L : List Int} {e : Int} : ∀ (m : Nat) (u p : Int), (∀ i : Nat, i < T.length → ∀ k : Nat, k < m + 1 → ¬ T.getD i 0 / 2 ^ k = u) → rd T L e m u p = none
  | 0, u, p, h => rfl
  | m + 1, u, p, h => by
    have h2 := dead_step h (bt_01 L p)
    unfold rd
    split
    · rw [idx_none fun i hi => by have := h2 i hi 0 (by omega); simpa using this, if_pos (by omega)]
      exact rd_none m _ _ h2
    · rfl
def trW : List Int := [1, 13, 2, 11, 8, 3, 24, 4, 5, -11, 47, 6, 7, 0, 0, -1, 26, 9, 34, 10, 33, -2, 22, 12, 0, -3, 14, 17, 15, 16, -4, 20, 21, -5, 18, 19, -6, 28, -7, -8, 0, -9, -10, 30, 23, 41, -12, 31, 25, 36, -13, 45, 38, 27, 40, -14, 29, 0, -15, -16, -17, -18, 46, 32, 0, -19, -20, 50, 35, 52, -21, 51, 55, 37, 0, -22, 48, 39, 0, -23, -24, 0, 42, 0, 43, 44, -25, 0, 0, -26, 0, -27, -28, 0, -29, 0, 0, 49, -30, -31, -32, -33, -34, -35, 53, 54, -36, -37, -38, -39, 56, 0, -40, -41, 0, 0, 0, 0, 0, 0]
def tvW : List Int := [1, 2, 4, 9, 19, 38, 77, 154, 8, 17, 35, 5, 11, 3, 6, 12, 13, 7, 14, 15, 25, 26, 10, 20, 18, 36, 16, 33, 29, 58, 53, 41, 83, 70, 34, 68, 37, 75, 32, 65, 66, 21, 42, 84, 85, 73, 82, 76, 64, 129, 141, 137, 69, 138, 139, 74, 148]
def trB : List Int := [1, 11, 2, 10, 3, 12, 4, 13, 16, 5, 15, 6, 7, -13, 20, 8, 31, 9, 33, -1, -2, -5, -4, -3, -7, -6, 14, -8, -10, -9, -11, -12, 25, 17, 18, 19, -14, 21, 23, -15, -16, 29, 36, 22, 0, -17, 24, 34, -18, 0, 0, 26, 27, 40, 28, 38, -19, 0, 43, 30, 45, -20, 32, 50, -21, 49, -22, 0, 46, 35, 53, -23, 37, 0, -24, 0, 0, 39, 0, -25, 41, 0, 42, 0, -26, 0, 0, 44, -27, -28, -29, -30, 47, 48, -31, -32, -33, -34, -35, -36, 51, 52, -37, -38, -39, -40, -41, 0, 0, 0, 0, 0, 0, 0, 0, 0, 0, 0, 0, 0]
def tvB : List Int := [1, 2, 4, 8, 16, 33, 67, 134, 269, 539, 5, 3, 9, 17, 34, 66, 32, 65, 130, 131, 268, 261, 523, 262, 524, 64, 129, 258, 516, 537, 1075, 538, 1076, 1078, 525, 1051, 522, 1044, 517, 1035, 259, 518, 1036, 1074, 2149, 2150, 1050, 2100, 2101, 2153, 1077, 2154, 2155, 2102]
def trM : List Int := [1, -4, 2, 8, 3, -9, 4, -8, 5, 7, 0, 6, -1, -7, -2, -6, -3, -5, 0, 0, 0, 0, 0, 0, 0, 0, 0, 0, 0, 0, 0, 0, 0, 0, 0, 0, 0, 0, 0, 0, 0, 0, 0, 0, 0, 0, 0, 0, 0, 0, 0, 0, 0, 0, 0, 0, 0, 0, 0, 0, 0, 0, 0, 0, 0, 0, 0, 0, 0, 0, 0, 0, 0, 0, 0, 0, 0, 0, 0, 0, 0, 0, 0, 0, 0, 0, 0, 0, 0, 0, 0, 0, 0, 0, 0, 0, 0, 0, 0, 0, 0, 0, 0, 0, 0, 0, 0, 0, 0, 0, 0, 0, 0, 0, 0, 0, 0, 0, 0, 0]
def tvM : List Int := [1, 2, 4, 8, 16, 32, 65, 33, 5]
/-- the tree W tells the codes T: its fork f stands for the bits of V f -/
def trOK (T W V : List Int) : Prop := V.length ≤ 60 ∧ W.length = 120 ∧ V.getD 0 0 = 1 ∧ ∀ f : Nat, f < V.length → (1 ≤ V.getD f 0 ∧ V.getD f 0 < 4096) ∧ ∀ r : Nat, r < 2 →
  (W.getD (2 * f + r) 0 = 0 ∧ dead T (2 * V.getD f 0 + r)) ∨ (0 < W.getD (2 * f + r) 0 ∧ W.getD (2 * f + r) 0 < V.length ∧ V.getD (W.getD (2 * f + r) 0).toNat 0 = 2 * V.getD f 0 + r ∧ idx T (2 * V.getD f 0 + r) T.length < 0) ∨ (W.getD (2 * f + r) 0 < 0 ∧ -100 < W.getD (2 * f + r) 0 ∧ idx T (2 * V.getD f 0 + r) T.length = -1 - W.getD (2 * f + r) 0)
def trOKb (T W V : List Int) : Bool := decide (V.length ≤ 60) && decide (W.length = 120) && decide (V.getD 0 0 = 1) && (List.range V.length).all fun f => decide (1 ≤ V.getD f 0 ∧ V.getD f 0 < 4096) && (List.range 2).all fun r =>
  (decide (W.getD (2 * f + r) 0 = 0) && (List.range T.length).all fun i => (List.range 13).all fun k => decide (¬ T.getD i 0 / 2 ^ k = 2 * V.getD f 0 + r)) || decide (0 < W.getD (2 * f + r) 0 ∧ W.getD (2 * f + r) 0 < V.length ∧ V.getD (W.getD (2 * f + r) 0).toNat 0 = 2 * V.getD f 0 + r ∧ idx T (2 * V.getD f 0 + r) T.length < 0) || decide (W.getD (2 * f + r) 0 < 0 ∧ -100 < W.getD (2 * f + r) 0 ∧ idx T (2 * V.getD f 0 + r) T.length = -1 - W.getD (2 * f + r) 0)
theorem trOK_of {T W V : List Int} (h : trOKb T W V = true) : trOK T W V := by
  simp only [trOKb, Bool.and_eq_true, Bool.or_eq_true, decide_eq_true_eq, List.all_eq_true, List.mem_range] at h
  obtain ⟨⟨⟨h1, h2⟩, h3⟩, h4⟩ := h
  refine ⟨h1, h2, h3, fun f hf => ⟨(h4 f hf).1, fun r hr => ?_⟩⟩
  rcases (h4 f hf).2 r hr with (z | z) | z
  · exact Or.inl ⟨z.1, fun i hi k hk => z.2 i hi k hk⟩
  · exact Or.inr (Or.inl z)
  · exact Or.inr (Or.inr z)
theorem trW_ok : trOK fx_tWR trW tvW := trOK_of (by decide +kernel)
theorem trB_ok : trOK fx_tBL trB tvB := trOK_of (by decide +kernel)
theorem trM_ok : trOK fx_tMD trM tvM := trOK_of (by decide +kernel)
/-- a tree lies at t -/
def cTr (h : fx_H) (t : Nat) (W : List Int) : Prop := (∃ a, h.1[t]? = some (a, .inl (4, [some (t + 1)]))) ∧ (∃ a, h.1[t + 1]? = some (a, .inr (0, 120))) ∧ ∀ i : Nat, i < 120 → h.2.2.1 (t + 1) i = W.getD i 0
theorem cTr.sm {P : Nat → Prop} {h h2 : fx_H} {t : Nat} {W : List Int} (c : cTr h t W) (m : sm P h h2) (h1 : ¬ P (t + 1)) : cTr h2 t W := ⟨by rw [m.1]; exact c.1, by rw [m.1]; exact c.2.1, fun i hi => by rw [m.2.2.1 _ i h1]; exact c.2.2 i hi⟩
section CO
variable {l : Launch} {Q : Option Value → fx_H → Prop} {h : fx_H} {a : Nat → Nat} {pp dd : Nat} {L : List Int} {b p e z : Int}
theorem m_next {t : Nat} {T W V : List Int} (ok : trOK T W V) (hS : h.1 = fx_S0 a pp dd) (ht3 : ¬ t + 1 = 3) (c : cRd h L b p e) (ct : cTr h t W) (k1 : ∀ i q, rd T L e 13 1 p = some (i, q) → ∀ h2, sm s3 h h2 → cRd h2 L b q e → Q (some (.int (zI i))) h2) (k0 : rd T L e 13 1 p = none → ∀ h2 p2, sm s3 h h2 → cRd h2 L b p2 e → Q (some (.int (zI (-1)))) h2) : fx_Mt l M_CT_next (0, 0) [.ref t, .ref 3] h Q := by
  generalize hXX : rd T L e 13 1 p = XX at k1 k0
  obtain ⟨⟨a1, t1⟩, ⟨a2, t2⟩, -⟩ := id ct
  refine e_CT_next hS t1 t2 ?_
  obtain ⟨o1, o2, o3, o4⟩ := ok
  have hV0 : 0 < V.length := by
    rcases V with _ | ⟨v9, V9⟩
    · simp at o3
    · simp
  have loop : ∀ (m x3 f : Nat) (p1 : Int) (h2 : fx_H), x3 + m = 12 → f < V.length → 2 ^ x3 ≤ V.getD f 0 → sm s3 h h2 → cRd h2 L b p1 e → XX = rd T L e (m + 1) (V.getD f 0) p1 → fx_V l M_CT_next (0, 0) Q 0 0 4 [some (.ref t), some (.ref 3), some (.int (zI (f : Nat))), some (.int (zI (x3 : Nat))), none, none] [] h2 := by
    intro m
    induction m with
    | zero =>
      intro x3 f p1 h2 hx hf hv m2 c2 er
      have h12 : x3 = 12 := by omega
      subst h12
      have := (o4 f hf).1.2
      omega
    | succ m ih =>
      intro x3 f p1 h2 hx hf hv m2 c2 er
      have hS2 := m2.1.trans hS
      refine w_CT_next_4 hS2 (by rw [m2.1]; exact t1) (by rw [m2.1]; exact t2) ⟨by omega, fun w => by omega, fun _ => ?_⟩
      have out : e ≤ p1 → XX = none := by
        intro w
        rw [er]
        unfold rd
        rw [if_neg (by omega)]
      refine m_bit hS2 c2 (fun w h3 m3 c3 => ?_) (fun w => ⟨_, rfl, rfl, by omega, fun w2 => by omega, fun _ => k0 (out w) h2 p1 m2 c2⟩)
      obtain ⟨r, hr⟩ : ∃ r : Nat, bt L p1 = r := ⟨(bt L p1).toNat, by have := bt_01 L p1; omega⟩
      have hr2 : r < 2 := by have := bt_01 L p1; omega
      have hv2 : (2 : Int) ^ (x3 + 1) = 2 * 2 ^ x3 := by rw [Int.pow_succ]; omega
      have hw : h3.2.2.1 (t + 1) (2 * (f : Int) + bt L p1).toNat = W.getD (2 * f + r) 0 := by
        rw [(m2.tr m3).2.2.1 _ _ ht3, show (2 * (f : Int) + bt L p1).toNat = 2 * f + r by omega]
        exact ct.2.2 _ (by omega)
      unfold rd at er
      rw [if_pos w, hr] at er
      refine ⟨_, rfl, m3.1, by omega, fun _ => ⟨by omega, by omega, ?_⟩, fun w2 => by omega⟩
      rw [hw]
      have e1 : (x3 : Int) + 1 = ((x3 + 1 : Nat) : Int) := by omega
      rw [e1]
      rcases (o4 f hf).2 r hr2 with ⟨q1, q2⟩ | ⟨q1, q2, q3, q4⟩ | ⟨q1, q2, q3⟩
      · rw [q1]
        refine ⟨by omega, fun w2 => by omega, fun _ => ⟨fun _ => k0 ?_ h3 _ (m2.tr m3) c3, fun w2 => by omega⟩⟩
        rw [er, idx_none fun i hi => by have := q2 i hi 0 (by omega); simpa using this, if_pos (by omega)]
        exact rd_none _ _ _ fun i hi k hk => q2 i hi k (by omega)
      · refine ⟨by omega, fun _ => ?_, fun w2 => by omega⟩
        rw [if_pos q4] at er
        obtain ⟨f2, hf2⟩ : ∃ f2 : Nat, W.getD (2 * f + r) 0 = f2 := ⟨(W.getD (2 * f + r) 0).toNat, by omega⟩
        rw [hf2] at q2 q3 ⊢
        rw [Int.toNat_natCast] at q3
        refine ih (x3 + 1) f2 (p1 + 1) h3 (by omega) (by omega) (by rw [q3, hv2]; omega) (m2.tr m3) c3 ?_
        rw [er, q3]
      · refine ⟨by omega, fun w2 => by omega, fun _ => ⟨fun w2 => by omega, fun _ => ?_⟩⟩
        rw [if_neg (by omega), q3] at er
        exact k1 _ _ er h3 (m2.tr m3) c3
  exact loop 12 0 0 p h rfl hV0 (by rw [o3]; decide) sm.rf c (by rw [o3]; exact hXX.symm)
theorem m_inRun {c : Int} (hS : h.1 = fx_S0 a pp dd) (mc : mC h) (hc : c = 0 ∨ c = 1) (cb : mB h L p e z) (k1 : ∀ i q, z = 0 → rd (TC c) L e 13 1 p = some (i, q) → ∀ h2, mo fN rF h h2 → mB h2 L q e 0 → Q (some (.int (zI i))) h2) (k0 : (z = 1 ∨ rd (TC c) L e 13 1 p = none) → ∀ h2 r p2, mo fN rF h h2 → mB h2 L p2 e 1 → -1 ≤ r → r ≤ 40 → Q (some (.int (zI r))) h2) : fx_Mt l M_MO_inRun (0, 0) [.ref 31, .int (zI c)] h Q := by
  generalize hXX : rd (TC c) L e 13 1 p = XX at k1 k0
  have hz := cb.2.2.2.1
  have hT : (TC c).length = 41 := by unfold TC; split <;> rfl
  have code : ∀ i : Nat, i < 41 → h.2.2.1 35 (41 * c + i).toNat = (TC c).getD i 0 := by
    intro i hi
    unfold TC
    rcases hc with rfl | rfl
    · rw [if_pos rfl, show (41 * (0 : Int) + (i : Int)).toNat = i by omega]; exact (mc i hi).1
    · rw [if_neg (by omega), show (41 * (1 : Int) + (i : Int)).toNat = 41 + i by omega]; exact (mc i hi).2
  have codeR : ∀ i : Nat, i < 41 → zR ((TC c).getD i 0) := by
    intro i hi
    have := RC_all i hi
    unfold TC
    split <;> omega
  refine e_MO_inRun hS ?_
  -- the end, when all is lost
  have stop : ∀ (h2 : fx_H) (x2 x3 x4 p2 : Int), (z = 1 ∨ XX = none) → -1 ≤ x3 → x3 ≤ 40 → 0 ≤ x4 → x4 ≤ 13 → mo fN rF h h2 → mB h2 L p2 e 1 → fx_V l M_MO_inRun (0, 0) Q 0 0 7 [some (.ref 31), some (.int (zI c)), some (.int (zI x2)), some (.int (zI x3)), some (.int (zI x4)), none] [] h2 := by
    intro h2 x2 x3 x4 p2 lost x30 x31 x40 x41 m2 c2
    have hS2 := m2.S.trans hS
    have fin : (x3 < 0 → fx_Mt l M_MO_need (0, 0) [.ref 31, .int (zI 0)] h2 (fun v h14 => ∃ r16 : Int, v = some (.int (zI r16)) ∧ h14.1 = h2.1 ∧ Q (some (.int (zI x3))) h14)) ∧ (¬ (x3 < 0) → fx_Mt l M_MO_need (0, 0) [.ref 31, .int (zI 1)] h2 (fun v h17 => ∃ r19 : Int, v = some (.int (zI r19)) ∧ h17.1 = h2.1 ∧ Q (some (.int (zI x3))) h17)) := ⟨fun _ => m_needF hS2 c2 fun h3 m3 c3 => ⟨_, rfl, m3.S, k0 lost h3 _ _ (m2.tr m3) c3 x30 x31⟩, fun _ => m_needT hS2 c2 fun h3 m3 c3 => ⟨_, rfl, m3.S, k0 lost h3 _ _ (m2.tr m3) c3 x30 x31⟩⟩
    refine w_MO_inRun_7 hS2 ⟨by omega, fun _ => ⟨by omega, fin⟩, fun _ => ⟨by omega, fun _ => fin, fun _ => ?_⟩⟩
    rw [c2.2.2.1]
    exact ⟨by omega, fun _ => fin, fun w => by omega⟩
  -- the search
  have search : ∀ (x2 x4 : Int) (h2 : fx_H), zR x2 → mo fN rF h h2 → (fx_V l M_MO_inRun (0, 0) Q 0 0 7 [some (.ref 31), some (.int (zI c)), some (.int (zI x2)), some (.int (zI (idx (TC c) x2 41))), some (.int (zI (x4 + 1))), none] [] h2) → ∀ m x5 : Nat, x5 + m = 41 → fx_V l M_MO_inRun (0, 0) Q 0 0 37 [some (.ref 31), some (.int (zI c)), some (.int (zI x2)), some (.int (zI (idx (TC c) x2 x5))), some (.int (zI x4)), some (.int (zI (x5 : Nat)))] [] h2 := by
    intro x2 x4 h2 hx2 m2 kq m
    induction m with
    | zero =>
      intro x5 h5
      have : x5 = 41 := by omega
      subst this
      exact w_MO_inRun_37 (m2.S.trans hS) ⟨by omega, fun _ => kq, fun w => absurd (by omega) w⟩
    | succ m ih =>
      intro x5 h5
      have e1 : (x5 : Int) + 1 = ((x5 + 1 : Nat) : Int) := by omega
      have e35 : h2.2.2.1 35 (41 * c + (x5 : Int)).toNat = (TC c).getD x5 0 := by rw [m2.1.2.2.1 35 _ (by omega)]; exact code x5 (by omega)
      refine w_MO_inRun_37 (m2.S.trans hS) ⟨by omega, fun w => by omega, fun _ => ⟨by omega, by omega, ?_⟩⟩
      rw [e35, e1]
      have nx := ih (x5 + 1) (by omega)
      refine ⟨codeR x5 (by omega), hx2, fun w => ?_, fun w => ?_⟩
      · rw [idx, if_neg w] at nx; exact nx
      · rw [idx, if_pos w] at nx; exact nx
  by_cases z1 : z = 1
  · exact stop h 1 (-1) 0 p (Or.inl z1) (by omega) (by omega) (by omega) (by omega) mo.rf (z1 ▸ cb)
  have z0 : z = 0 := by omega
  subst z0
  have loop : ∀ (m x4 : Nat) (u p1 : Int) (h2 : fx_H), x4 + m = 13 → 0 ≤ u → u < 2 ^ (x4 + 1) → mo fN rF h h2 → mB h2 L p1 e 0 → XX = rd (TC c) L e m u p1 → fx_V l M_MO_inRun (0, 0) Q 0 0 7 [some (.ref 31), some (.int (zI c)), some (.int (zI u)), some (.int (zI (-1))), some (.int (zI (x4 : Nat))), none] [] h2 := by
    intro m
    induction m with
    | zero =>
      intro x4 u p1 h2 hx u0 u1 m2 c2 er
      have hS2 := m2.S.trans hS
      have lost : XX = none := er
      refine w_MO_inRun_7 hS2 ⟨by omega, fun _ => ⟨by omega, fun _ => m_needF hS2 c2 fun h3 m3 c3 => ⟨_, rfl, m3.S, k0 (Or.inr lost) h3 _ _ (m2.tr m3) c3 (by omega) (by omega)⟩, fun w => by omega⟩, fun w => by omega⟩
    | succ m ih =>
      intro x4 u p1 h2 hx u0 u1 m2 c2 er
      have hS2 := m2.S.trans hS
      have h2p : (2 : Int) ^ (x4 + 1 + 1) = 2 * 2 ^ (x4 + 1) := by rw [Int.pow_succ]; omega
      have h14 := p2_le (show x4 + 1 ≤ 13 by omega)
      have h01 := bt_01 L p1
      have e1 : (x4 : Int) + 1 = ((x4 + 1 : Nat) : Int) := by omega
      refine w_MO_inRun_7 hS2 ⟨by omega, fun w => by omega, fun _ => ⟨by omega, fun w => by omega, fun _ => ?_⟩⟩
      rw [c2.2.2.1]
      refine ⟨by omega, fun w => by omega, fun _ => m_inBit hS2 c2 (fun w h3 m3 c3 => ⟨_, rfl, m3.S, ?_⟩) (fun w h3 m3 c3 => ⟨_, rfl, m3.S, ?_⟩)⟩
      · have m23 := m2.tr m3
        unfold rd at er
        rw [if_pos w, hT] at er
        refine search (2 * u + bt L p1) x4 h3 (by omega) m23 ?_ 41 0 rfl
        rw [e1]
        have ir := idx_R (TC c) (2 * u + bt L p1) 41
        by_cases hi : idx (TC c) (2 * u + bt L p1) 41 < 0
        · rw [if_pos hi] at er
          have i1 : idx (TC c) (2 * u + bt L p1) 41 = -1 := by omega
          rw [i1]
          exact ih (x4 + 1) _ _ h3 (by omega) (by omega) (by omega) m23 c3 er
        · rw [if_neg hi] at er
          have hS3 := m23.S.trans hS
          have good : fx_Mt l M_MO_need (0, 0) [.ref 31, .int (zI 1)] h3 (fun v h17 => ∃ r19 : Int, v = some (.int (zI r19)) ∧ h17.1 = h3.1 ∧ Q (some (.int (zI (idx (TC c) (2 * u + bt L p1) 41)))) h17) := m_needT hS3 c3 fun h4 m4 c4 => ⟨_, rfl, m4.S, k1 _ _ rfl er h4 (m23.tr m4) c4⟩
          exact w_MO_inRun_7 hS3 ⟨by omega, fun _ => ⟨by omega, fun w2 => absurd w2 hi, fun _ => good⟩, fun _ => ⟨by omega, fun _ => ⟨fun w2 => absurd w2 hi, fun _ => good⟩, fun w2 => by omega⟩⟩
      · have m23 := m2.tr m3
        have lost : XX = none := by rw [er]; unfold rd; rw [if_neg (by omega)]
        have ir := idx_R (TC c) (2 * u + 0) 41
        refine search (2 * u + 0) x4 h3 (by omega) m23 ?_ 41 0 rfl
        exact stop h3 _ _ _ _ (Or.inr lost) (by omega) (by omega) (by omega) (by omega) m23 c3
  exact loop 13 0 1 p h rfl (by omega) (by decide) mo.rf cb hXX.symm
end CO
