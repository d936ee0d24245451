/-! lines told from bits; and the program's reading of them -/
def FU : Nat := 16001
theorem FU_16 {e p : Int} {n : Nat} (h : e ≤ 8 * (n : Int)) (hn : n ≤ 2000) (hp : 0 ≤ p) : e - p < (FU : Int) := by unfold FU; omega
def mx (a : Int) : Int := if a < 0 then 0 else a
def pnt (r : Int → Int) (x y c : Int) : Int → Int := fun i => if x ≤ i ∧ i < y then c else r i
/-- a line BY ITSELF from x on -/
def lnI (L : List Int) (e w : Int) : Nat → Int → Int → Int → (Int → Int) → Option (Int × (Int → Int))
  | 0, _, _, _, _ => none
  | m + 1, p, x, c, r => if w ≤ x then some (p, r) else
    match rd (TC c) L e 13 1 p with
    | none => none
    | some (n, q) => if w < x + n then none else lnI L e w m q (x + n) (1 - c) (pnt r x (x + n) c)
/-- two runs, not both of no pixels -/
def two (L : List Int) (e c p : Int) : Option (Int × Int × Int) :=
  match rd (TC c) L e 13 1 p with
  | none => none
  | some (n1, q1) =>
    match rd (TC (1 - c)) L e 13 1 q1 with
    | none => none
    | some (n2, q2) => if n1 + n2 = 0 then none else some (n1, n2, q2)
/-- a line BY ANOTHER, o, behind a -/
def lnA (L : List Int) (e w : Int) (o : Int → Int) : Nat → Int → Int → Int → (Int → Int) → Option (Int × (Int → Int))
  | 0, _, _, _, _ => none
  | m + 1, p, a, c, r => if w ≤ a then some (p, r) else
    match rd fx_tMD L e 13 1 p with
    | none => none
    | some (k, q) =>
      if k = 8 then
        match two L e c q with
        | none => none
        | some (n1, n2, q2) => if w < mx a + n1 + n2 then none else lnA L e w o m q2 (mx a + n1 + n2) c (pnt (pnt r (mx a) (mx a + n1) c) (mx a + n1) (mx a + n1 + n2) (1 - c))
      else if k = 7 then
        (if fA o w (fC o w (a + 1) c) c < w then lnA L e w o m q (fA o w (fC o w (a + 1) c) c) c (pnt r (mx a) (fA o w (fC o w (a + 1) c) c) c) else none)
      else (if a < fC o w (a + 1) c + k - 3 ∧ fC o w (a + 1) c + k - 3 ≤ w then lnA L e w o m q (fC o w (a + 1) c + k - 3) (1 - c) (pnt r (mx a) (fC o w (a + 1) c + k - 3) c) else none)
theorem lnI_s (L : List Int) (e w : Int) (m : Nat) (p x c : Int) (r : Int → Int) : lnI L e w (m + 1) p x c r = if w ≤ x then some (p, r) else
    match rd (TC c) L e 13 1 p with
    | none => none
    | some (n, q) => if w < x + n then none else lnI L e w m q (x + n) (1 - c) (pnt r x (x + n) c) := rfl
theorem lnA_s (L : List Int) (e w : Int) (o : Int → Int) (m : Nat) (p a c : Int) (r : Int → Int) : lnA L e w o (m + 1) p a c r = if w ≤ a then some (p, r) else
    match rd fx_tMD L e 13 1 p with
    | none => none
    | some (k, q) =>
      if k = 8 then
        match two L e c q with
        | none => none
        | some (n1, n2, q2) => if w < mx a + n1 + n2 then none else lnA L e w o m q2 (mx a + n1 + n2) c (pnt (pnt r (mx a) (mx a + n1) c) (mx a + n1) (mx a + n1 + n2) (1 - c))
      else if k = 7 then
        (if fA o w (fC o w (a + 1) c) c < w then lnA L e w o m q (fA o w (fC o w (a + 1) c) c) c (pnt r (mx a) (fA o w (fC o w (a + 1) c) c) c) else none)
      else (if a < fC o w (a + 1) c + k - 3 ∧ fC o w (a + 1) c + k - 3 ≤ w then lnA L e w o m q (fC o w (a + 1) c + k - 3) (1 - c) (pnt r (mx a) (fC o w (a + 1) c + k - 3) c) else none) := rfl
/-- f with the row y as r -/
def row (f : Int → Int → Int) (y : Int) (r : Int → Int) : Int → Int → Int := fun a b => if b = y then r a else f a b
/-- f with a run painted -/
def prn (w : Int) (f : Int → Int → Int) (y x x2 c : Int) : Int → Int → Int := fun a b => if b = y ∧ x ≤ a ∧ a < x2 ∧ 0 ≤ a ∧ a < w then c else f a b
theorem prn_row {w : Int} {f : Int → Int → Int} {y x x2 c : Int} {r : Int → Int} (h2 : x2 ≤ w) (hx : -1 ≤ x) : prn w (row f y r) y x x2 c = row f y (pnt r (mx x) x2 c) := by
  funext a b
  unfold prn row pnt mx
  by_cases hb : b = y
  · rw [if_pos hb, if_pos hb]
    by_cases ha : b = y ∧ x ≤ a ∧ a < x2 ∧ 0 ≤ a ∧ a < w
    · rw [if_pos ha, if_pos (by split <;> omega)]
    · rw [if_neg ha, if_neg (by split <;> omega)]
  · rw [if_neg (fun q => hb q.1), if_neg hb, if_neg hb]
theorem mx_nn {a : Int} (h : 0 ≤ a) : mx a = a := by unfold mx; rw [if_neg (by omega)]
theorem mx_R (a : Int) (h : -1 ≤ a) : 0 ≤ mx a ∧ a ≤ mx a ∧ mx a ≤ a + 1 := by unfold mx; split <;> omega
/-- the three trees -/
def c3T (h : fx_H) : Prop := cTr h 5 trW ∧ cTr h 7 trB ∧ cTr h 9 trM
theorem c3T.sm {P : Nat → Prop} {h h2 : fx_H} (c : c3T h) (m : sm P h h2) (h1 : ¬ P 6) (h3 : ¬ P 8) (h4 : ¬ P 10) : c3T h2 := ⟨c.1.sm m h1, c.2.1.sm m h3, c.2.2.sm m h4⟩
section RL
variable {l : Launch} {Q : Option Value → fx_H → Prop} {h : fx_H} {a : Nat → Nat} {pp dd p : Nat} {L : List Int} {b q e z : Int} {g w t : Int} {f : Int → Int → Int}
theorem m_paintP {x y u : Int} (c : cP h p g w t f) (hx : zR x) (hy : zR y) (hu : 0 ≤ u ∧ u ≤ (if g = 0 then 1 else 255)) (k : ∀ h2, sm (fun j => j = p + 1) h h2 → cP h2 p g w t (fun a b => if (0 ≤ x ∧ x < w ∧ 0 ≤ y ∧ y < t) ∧ a = x ∧ b = y then u else f a b) → Q none h2) : fx_Mt l M_PI_paint (0, 0) [.ref p, .int (zI x), .int (zI y), .int (zI u)] h Q := by
  obtain ⟨c1, c2, c3, rfl, rfl, rfl, c7, c8⟩ := c
  refine m_paint c1 hx hy (fun hin => k _ (sm.uA rfl) ⟨c1, ?_, c3, rfl, rfl, rfl, fun a b => ?_, ?_⟩) (fun hin => k _ sm.rf ⟨c1, c2, c3, rfl, rfl, rfl, fun a b => ?_, ?_⟩)
  · intro i hi
    by_cases hii : i = (y * h.2.1 p 2 + x).toNat
    · subst hii; rw [uA_s]; exact hu
    · rw [uA_n _ _ (fun q => hii q.2)]; exact c2 i hi
  · rw [px_paint c1 hin, c7]
    by_cases hab : a = x ∧ b = y
    · rw [if_pos hab]; exact (if_pos ⟨hin, hab⟩).symm
    · rw [if_neg hab]; exact (if_neg (fun q => hab q.2)).symm
  · obtain ⟨o1, o2, o3, o4, o5, o6, o7, o8⟩ := c8
    refine ⟨o1, o2, o3, o4, o5, o6, fun a b => ?_, fun a b hn => ?_⟩
    · show 0 ≤ (if _ then u else f a b) ∧ (if _ then u else f a b) ≤ _
      split
      · exact hu
      · exact o7 a b
    · show (if _ then u else f a b) = 0
      rw [if_neg]
      · exact o8 a b hn
      · rintro ⟨q1, rfl, rfl⟩; exact hn q1
  · rw [c7]; exact (if_neg (fun q => hin q.1)).symm
  · have ef : (fun a b => if (0 ≤ x ∧ x < h.2.1 p 2 ∧ 0 ≤ y ∧ y < h.2.1 p 3) ∧ a = x ∧ b = y then u else f a b) = f := by
      funext a b
      exact if_neg (fun q => hin q.1)
    rw [ef]; exact c8
theorem m_paintRun {y x x2 c : Int} (hS : h.1 = fx_S0 a pp dd) (cp : cP h p g w t f) (hy : 0 ≤ y) (hyt : y < t) (hx : -1 ≤ x) (hx1 : x ≤ 1000) (hx2 : -1000 ≤ x2) (hx3 : x2 ≤ 1000) (hc : c = 0 ∨ c = 1) (k : ∀ h2, sm (fun j => j = p + 1) h h2 → cP h2 p g w t (prn w f y x x2 c) → Q none h2) : fx_Mt l M_LI_paintRun (0, 0) [.ref 4, .ref p, .int (zI y), .int (zI x), .int (zI x2), .int (zI c)] h Q := by
  obtain ⟨⟨a1, s1⟩, ⟨a2, s2⟩, -⟩ := cp.1
  refine e_LI_paintRun hS s1 s2 ?_
  have ht : t ≤ 24 := cp.2.2.2.2.2.2.2.2.2.2.2.1
  have hc2 : 0 ≤ c ∧ c ≤ (if g = 0 then 1 else 255) := by split <;> omega
  have no : ∀ y9 : Int, y9 ≤ x → prn w f y x y9 c = f := by
    intro y9 hy9
    funext a b
    unfold prn
    exact if_neg (by omega)
  by_cases hxx : x2 ≤ x
  · exact w_LI_paintRun_3 hS s1 s2 ⟨by omega, by omega, fun _ => k h sm.rf (by rw [no x2 hxx]; exact cp), fun w => absurd hxx w⟩
  have loop : ∀ (m : Nat) (x6 : Int) (h2 : fx_H), x ≤ x6 → x6 + m = x2 → sm (fun j => j = p + 1) h h2 → cP h2 p g w t (prn w f y x x6 c) → fx_V l M_LI_paintRun (0, 0) Q 0 0 3 [none, some (.ref p), some (.int (zI y)), none, some (.int (zI x2)), some (.int (zI c)), some (.int (zI x6))] [] h2 := by
    intro m
    induction m with
    | zero =>
      intro x6 h2 h6 hm m2 c2
      have h9 : x6 = x2 := by omega
      rw [h9] at c2
      exact w_LI_paintRun_3 (m2.1.trans hS) (by rw [m2.1]; exact s1) (by rw [m2.1]; exact s2) ⟨by omega, by omega, fun _ => k h2 m2 c2, fun w => by omega⟩
    | succ m ih =>
      intro x6 h2 h6 hm m2 c2
      refine w_LI_paintRun_3 (m2.1.trans hS) (by rw [m2.1]; exact s1) (by rw [m2.1]; exact s2) ⟨by omega, by omega, fun w => by omega, fun _ => ?_⟩
      refine m_paintP c2 (by omega) (by omega) hc2 fun h3 m3 c3 => ⟨rfl, m3.1, ih (x6 + 1) h3 (by omega) (by omega) (m2.tr m3) ?_⟩
      have ef : prn w f y x (x6 + 1) c = (fun a b => if (0 ≤ x6 ∧ x6 < w ∧ 0 ≤ y ∧ y < t) ∧ a = x6 ∧ b = y then c else prn w f y x x6 c a b) := by
        funext a b
        unfold prn
        by_cases hq : (0 ≤ x6 ∧ x6 < w ∧ 0 ≤ y ∧ y < t) ∧ a = x6 ∧ b = y
        · rw [if_pos hq, if_pos (by omega)]
        · rw [if_neg hq]
          by_cases hq2 : b = y ∧ x ≤ a ∧ a < x6 ∧ 0 ≤ a ∧ a < w
          · rw [if_pos hq2, if_pos (by omega)]
          · rw [if_neg hq2, if_neg (by omega)]
      rw [ef]; exact c3
  exact loop (x2 - x).toNat x h (by omega) (by omega) sm.rf (by rw [no x (by omega)]; exact cp)
/-- the next run of a colour -/
theorem m_run {c : Int} {Q2 : fx_H → Option Value → fx_H → Prop} (hS : h.1 = fx_S0 a pp dd) (hc : c = 0 ∨ c = 1) (cr : cRd h L b q e) (tr : c3T h) (k1 : ∀ i q2, rd (TC c) L e 13 1 q = some (i, q2) → ∀ h2, sm s3 h h2 → cRd h2 L b q2 e → Q2 h (some (.int (zI i))) h2) (k0 : rd (TC c) L e 13 1 q = none → ∀ h2 q2, sm s3 h h2 → cRd h2 L b q2 e → Q2 h (some (.int (zI (-1)))) h2) : fx_Mt l M_LI_runsOf (0, 0) [.ref 4, .int (zI c)] h (fun v h1 => ∃ q3 : Nat, v = some (.ref q3) ∧ (q3 = 5 ∨ q3 = 7) ∧ h1.1 = h.1 ∧ fx_Mt l M_CT_next (0, 0) [.ref q3, .ref 3] h1 (Q2 h1)) := by
  refine e_LI_runsOf hS ⟨by omega, fun w => ⟨7, rfl, Or.inr rfl, rfl, ?_⟩, fun w => ⟨5, rfl, Or.inl rfl, rfl, ?_⟩⟩
  · have e1 : TC c = fx_tBL := by unfold TC; rw [if_neg w]
    rw [e1] at k1 k0
    exact m_next trB_ok hS (by omega) cr tr.2.1 k1 k0
  · have e1 : TC c = fx_tWR := by unfold TC; rw [if_pos w]
    rw [e1] at k1 k0
    exact m_next trW_ok hS (by omega) cr tr.1 k1 k0
theorem TC_len (c : Int) : (TC c).length = 41 := by unfold TC; split <;> rfl
abbrev s3p (p : Nat) : Nat → Prop := fun j => j = 3 ∨ j = p + 1
theorem s3.to {p : Nat} {h h2 : fx_H} (m : sm s3 h h2) : sm (s3p p) h h2 := m.mono fun j z => Or.inl z
theorem s3.pt {p : Nat} {h h2 : fx_H} (m : sm (fun j => j = p + 1) h h2) : sm (s3p p) h h2 := m.mono fun j z => Or.inr z
theorem m_unpackByItself {y : Int} (hS : h.1 = fx_S0 a pp dd) (cp : cP h p g w t (row f y (fun _ => 0))) (cr : cRd h L b q e) (tr : c3T h) (hy : 0 ≤ y) (hyt : y < t) (k1 : ∀ q2 r, lnI L e w FU q 0 0 (fun _ => 0) = some (q2, r) → ∀ h2, sm (s3p p) h h2 → cRd h2 L b q2 e → cP h2 p g w t (row f y r) → Q (some (.int (zI 1))) h2) (k0 : lnI L e w FU q 0 0 (fun _ => 0) = none → ∀ h2, sm (s3p p) h h2 → Q (some (.int (zI 0))) h2) : fx_Mt l M_LI_unpackByItself (0, 0) [.ref 4, .ref p, .int (zI y)] h Q := by
  obtain ⟨⟨a1, s1⟩, ⟨a2, s2⟩, -⟩ := cp.1
  have hp27 := cp.2.2.1
  have hw1 : 1 ≤ w := cp.2.2.2.2.2.2.2.2.1
  have hw2 : w ≤ 40 := cp.2.2.2.2.2.2.2.2.2.1
  refine e_LI_unpackByItself hS s1 s2 ?_
  have hel := cr.2.2.2.2.2
  have hln := cr.1.2.2.2.1
  have loop : ∀ (m : Nat) (x5 x c q1 : Int) (r : Int → Int) (h2 : fx_H), e - q1 < m → 0 ≤ x5 → x5 ≤ q1 → 0 ≤ x → x ≤ w → (c = 0 ∨ c = 1) → sm (s3p p) h h2 → cRd h2 L b q1 e → cP h2 p g w t (row f y r) → lnI L e w FU q 0 0 (fun _ => 0) = lnI L e w m q1 x c r → fx_V l M_LI_unpackByItself (0, 0) Q 0 0 8 [some (.ref 4), some (.ref p), some (.int (zI y)), some (.int (zI x)), some (.int (zI c)), some (.int (zI x5)), none] [] h2 := by
    intro m
    induction m with
    | zero => intro x5 x c q1 r h2 hm _ _ _ _ _ _ c2; have := c2.2.2.2.2.1; omega
    | succ m ih =>
      intro x5 x c q1 r h2 hm h50 h5 hx0 hxw hc m2 c2 p2 er
      have hqe := c2.2.2.2.2.1
      have hS2 := m2.1.trans hS
      rw [lnI_s] at er
      refine w_LI_unpackByItself_8 hS2 (by rw [m2.1]; exact s1) (by rw [m2.1]; exact s2) ?_
      rw [p2.2.2.2.2.1]
      refine ⟨by omega, fun w5 => ⟨by omega, by omega, fun wx => k0 ?_ h2 m2, fun wx => ?_⟩, fun w5 => ⟨by omega, by omega, fun wx => ⟨fun w9 => by omega, fun _ => ?_⟩, fun wx => ?_⟩⟩
      · rw [er, if_neg (by omega)]
        have : rd (TC c) L e 13 1 q1 = none := by unfold rd; rw [if_neg (by omega)]
        rw [this]
      · rw [if_pos (by omega)] at er
        exact k1 _ _ er h2 m2 c2 p2
      · rw [if_pos wx] at er
        exact k1 _ _ er h2 m2 c2 p2
      · rw [if_neg wx] at er
        refine m_run hS2 hc c2 (tr.sm m2 (by omega) (by omega) (by omega)) (fun i q2 hi h3 m3 c3 => ?_) (fun hi h3 q2 m3 c3 => ⟨_, rfl, m3.1, by omega, fun _ => k0 ?_ h3 (m2.tr (s3.to m3)), fun w9 => by omega⟩)
        · have ir := rd_R hi
          rw [TC_len] at ir
          rw [hi] at er
          have p3 : cP h3 p g w t (row f y r) := p2.sm m3 (by omega) (by omega)
          refine ⟨_, rfl, m3.1, by omega, fun w9 => by omega, fun _ => ⟨by omega, ?_⟩⟩
          rw [p3.2.2.2.2.1]
          refine ⟨by omega, fun w8 => ?_, fun w8 => k0 (by rw [er]; exact if_pos (by omega)) h3 (m2.tr (s3.to m3))⟩
          refine m_paintRun (m3.1.trans hS2) p3 hy hyt (by omega) (by omega) (by omega) (by omega) hc fun h4 m4 p4 => ⟨rfl, m4.1, ?_⟩
          rw [prn_row (by omega) (by omega), mx_nn hx0] at p4
          refine ih (x5 + 1) (x + i) (1 - c) q2 _ h4 (by omega) (by omega) (by omega) (by omega) (by omega) (by omega) ((m2.tr (s3.to m3)).tr (s3.pt m4)) (c3.sm m4 (by omega) (by omega) (by omega)) p4 ?_
          rw [er]
          exact if_neg (by omega)
        · rw [er, hi]
  exact loop FU 0 0 0 q _ h (FU_16 hel hln cr.2.2.2.1) (by omega) cr.2.2.2.1 (by omega) (by omega) (Or.inl rfl) sm.rf cr cp rfl
theorem two_R {c : Int} {n1 n2 q2 : Int} (h : two L e c q = some (n1, n2, q2)) : 0 ≤ n1 ∧ n1 ≤ 40 ∧ 0 ≤ n2 ∧ n2 ≤ 40 ∧ 0 < n1 + n2 ∧ q < q2 ∧ q2 ≤ e := by
  unfold two at h
  split at h
  · exact absurd h (by simp)
  · rename_i m1 q1 h1
    have r1 := rd_R h1
    rw [TC_len] at r1
    split at h
    · exact absurd h (by simp)
    · rename_i m2 q3 h2
      have r2 := rd_R h2
      rw [TC_len] at r2
      split at h
      · exact absurd h (by simp)
      · injection h with h
        injection h with g1 g2
        injection g2 with g2 g3
        omega
theorem m_endOfMode {ot A c m : Int} (hS : h.1 = fx_S0 a pp dd) (cp : cP h p g w t f) (hg : g = 0) (hot : zR ot) (hA : -1 ≤ A) (hA2 : A < w) (hc : c = 0 ∨ c = 1) (hm : 0 ≤ m) (hm2 : m ≤ 8) (k : Q (some (.int (zI (if m = 7 then (if fA (fun i => f i ot) w (fC (fun i => f i ot) w (A + 1) c) c < w then fA (fun i => f i ot) w (fC (fun i => f i ot) w (A + 1) c) c else -1) else fC (fun i => f i ot) w (A + 1) c + m - 3)))) h) : fx_Mt l M_LI_endOfMode (0, 0) [.ref 4, .ref p, .int (zI ot), .int (zI A), .int (zI c), .int (zI m)] h Q := by
  obtain ⟨⟨a1, s1⟩, ⟨a2, s2⟩, -⟩ := cp.1
  have hw2 : w ≤ 40 := cp.2.2.2.2.2.2.2.2.2.1
  have b1 := fC_R (r := fun i => f i ot) (c := c) (show A + 1 ≤ w by omega)
  have b2 := fA_R (r := fun i => f i ot) (c := c) b1.2
  refine e_LI_endOfMode hS s1 s2 ?_
  refine m_fCP cp hot (by omega) (by omega) (by omega) ⟨_, rfl, rfl, by omega, fun w7 => ?_, fun w7 => ?_⟩
  · rw [if_pos w7] at k
    refine m_fAP cp hg hot (by omega) b1.2 hc (fun hlt => fC_at (by omega) hlt) ⟨_, rfl, rfl, by omega, ?_⟩
    rw [cp.2.2.2.2.1]
    refine ⟨by omega, fun w8 => ?_, fun w8 => ?_⟩
    · rw [if_neg (by omega)] at k; exact k
    · rw [if_pos (by omega)] at k; exact k
  · rw [if_neg w7] at k; exact k
theorem m_unpackTwoRuns {y x c : Int} (hS : h.1 = fx_S0 a pp dd) (cp : cP h p g w t f) (cr : cRd h L b q e) (tr : c3T h) (hy : 0 ≤ y) (hyt : y < t) (hx : 0 ≤ x) (hx2 : x ≤ 100) (hc : c = 0 ∨ c = 1) (k1 : ∀ n1 n2 q2, two L e c q = some (n1, n2, q2) → ∀ h2, sm (s3p p) h h2 → cRd h2 L b q2 e → cP h2 p g w t (prn w (prn w f y x (x + n1) c) y (x + n1) (x + n1 + n2) (1 - c)) → Q (some (.int (zI (x + n1 + n2)))) h2) (k0 : two L e c q = none → ∀ h2, sm (s3p p) h h2 → Q (some (.int (zI (-1)))) h2) : fx_Mt l M_LI_unpackTwoRuns (0, 0) [.ref 4, .ref p, .int (zI y), .int (zI x), .int (zI c)] h Q := by
  obtain ⟨⟨a1, s1⟩, ⟨a2, s2⟩, -⟩ := cp.1
  have hp27 := cp.2.2.1
  refine e_LI_unpackTwoRuns hS s1 s2 ?_
  unfold two at k1 k0
  refine m_run hS hc cr tr (fun n1 q1 e1 h2 m2 c2 => ?_) (fun e1 h2 q1 m2 c2 => ⟨_, rfl, m2.1, by omega, fun w9 => by omega, fun _ => k0 (by rw [e1]) h2 (s3.to m2)⟩)
  rw [e1] at k1 k0
  have r1 := rd_R e1
  rw [TC_len] at r1
  have hS2 := m2.1.trans hS
  refine ⟨_, rfl, m2.1, by omega, fun _ => ?_, fun w9 => by omega⟩
  refine m_run hS2 (by omega) c2 (tr.sm m2 (by omega) (by omega) (by omega)) (fun n2 q2 e2 h3 m3 c3 => ?_) (fun e2 h3 q2 m3 c3 => ⟨_, rfl, m3.1, by omega, fun _ => k0 (by simp only [e2]) h3 ((s3.to m2).tr (s3.to m3)), fun w9 => by omega⟩)
  simp only [e2] at k1 k0
  have r2 := rd_R e2
  rw [TC_len] at r2
  have m23 : sm (s3p p) h h3 := (s3.to m2).tr (s3.to m3)
  have p3 : cP h3 p g w t f := (cp.sm m2 (by omega) (by omega)).sm m3 (by omega) (by omega)
  refine ⟨_, rfl, m3.1, by omega, fun w9 => by omega, fun _ => ⟨by omega, fun w8 => ?_, fun w8 => k0 (if_pos w8) h3 m23⟩⟩
  refine m_paintRun (m23.1.trans hS) p3 hy hyt (by omega) (by omega) (by omega) (by omega) hc fun h4 m4 p4 => ⟨rfl, m4.1, ?_⟩
  have m24 := m23.tr (s3.pt m4)
  refine m_paintRun (m24.1.trans hS) p4 hy hyt (by omega) (by omega) (by omega) (by omega) (by omega) fun h5 m5 p5 => ⟨rfl, m5.1, ?_⟩
  exact k1 n1 n2 q2 (if_neg w8) h5 (m24.tr (s3.pt m5)) ((c3.sm m4 (by omega) (by omega) (by omega)).sm m5 (by omega) (by omega) (by omega)) p5
theorem m_unpackByAnother {y ot : Int} (hS : h.1 = fx_S0 a pp dd) (cp : cP h p g w t (row f y (fun _ => 0))) (hg : g = 0) (cr : cRd h L b q e) (tr : c3T h) (hy : 0 ≤ y) (hyt : y < t) (hot : zR ot) (hoy : ¬ ot = y) (k1 : ∀ q2 r, lnA L e w (fun i => f i ot) FU q (-1) 0 (fun _ => 0) = some (q2, r) → ∀ h2, sm (s3p p) h h2 → cRd h2 L b q2 e → cP h2 p g w t (row f y r) → Q (some (.int (zI 1))) h2) (k0 : lnA L e w (fun i => f i ot) FU q (-1) 0 (fun _ => 0) = none → ∀ h2, sm (s3p p) h h2 → Q (some (.int (zI 0))) h2) : fx_Mt l M_LI_unpackByAnother (0, 0) [.ref 4, .ref p, .int (zI y), .int (zI ot)] h Q := by
  obtain ⟨⟨a1, s1⟩, ⟨a2, s2⟩, -⟩ := cp.1
  have hp27 := cp.2.2.1
  have hw1 : 1 ≤ w := cp.2.2.2.2.2.2.2.2.1
  have hw2 : w ≤ 40 := cp.2.2.2.2.2.2.2.2.2.1
  refine e_LI_unpackByAnother hS s1 s2 ?_
  have hel := cr.2.2.2.2.2
  have hln := cr.1.2.2.2.1
  have eo : ∀ r : Int → Int, (fun i => row f y r i ot) = fun i => f i ot := fun r => funext fun i => if_neg hoy
  have loop : ∀ (m : Nat) (x6 A c q1 : Int) (r : Int → Int) (h2 : fx_H), e - q1 < m → 0 ≤ x6 → x6 ≤ A + 1 → -1 ≤ A → A ≤ w → (c = 0 ∨ c = 1) → sm (s3p p) h h2 → cRd h2 L b q1 e → cP h2 p g w t (row f y r) → lnA L e w (fun i => f i ot) FU q (-1) 0 (fun _ => 0) = lnA L e w (fun i => f i ot) m q1 A c r → fx_V l M_LI_unpackByAnother (0, 0) Q 0 0 9 [some (.ref 4), some (.ref p), some (.int (zI y)), some (.int (zI ot)), some (.int (zI A)), some (.int (zI c)), some (.int (zI x6)), none, none] [] h2 := by
    intro m
    induction m with
    | zero => intro x6 A c q1 r h2 hm _ _ _ _ _ _ c2; have := c2.2.2.2.2.1; omega
    | succ m ih =>
      intro x6 A c q1 r h2 hm h60 h6 hA0 hAw hc m2 c2 p2 er
      have hqe := c2.2.2.2.2.1
      have hS2 := m2.1.trans hS
      rw [lnA_s] at er
      refine w_LI_unpackByAnother_9 hS2 (by rw [m2.1]; exact s1) (by rw [m2.1]; exact s2) ?_
      rw [p2.2.2.2.2.1]
      refine ⟨by omega, by omega, fun w5 => ⟨by omega, fun wx => by omega, fun wx => ?_⟩, fun w5 => ⟨by omega, fun wx => ⟨fun w9 => by omega, fun _ => ?_⟩, fun wx => ?_⟩⟩
      · rw [if_pos (by omega)] at er
        exact k1 _ _ er h2 m2 c2 p2
      · rw [if_pos wx] at er
        exact k1 _ _ er h2 m2 c2 p2
      rw [if_neg wx] at er
      refine m_next trM_ok hS2 (by omega) c2 (tr.sm m2 (by omega) (by omega) (by omega)).2.2 (fun k9 q2 hi h3 m3 c3 => ?_) (fun hi h3 q2 m3 c3 => ⟨_, rfl, m3.1, by omega, fun w9 => by omega, fun _ => k0 ?_ h3 (m2.tr (s3.to m3))⟩)
      · have ir := rd_R hi
        have ir9 : k9 < 9 := ir.2.1
        simp only [hi] at er
        have p3 : cP h3 p g w t (row f y r) := p2.sm m3 (by omega) (by omega)
        have m23 := m2.tr (s3.to m3)
        have hS3 := m23.1.trans hS
        have mr := mx_R A hA0
        refine ⟨_, rfl, m3.1, by omega, fun _ => ⟨fun w8 => ?_, fun w8 => ?_⟩, fun w9 => by omega⟩
        · rw [if_neg w8] at er
          have b1 := fC_R (r := fun i => f i ot) (c := c) (show A + 1 ≤ w by omega)
          have b2 := fA_R (r := fun i => f i ot) (c := c) b1.2
          refine m_endOfMode hS3 p3 hg hot hA0 (by omega) hc (by omega) (by omega) ⟨_, rfl, rfl, ?_⟩
          rw [eo r]
          by_cases w7 : k9 = 7
          · rw [if_pos w7] at er
            rw [if_pos w7]
            by_cases hb : fA (fun i => f i ot) w (fC (fun i => f i ot) w (A + 1) c) c < w
            · rw [if_pos hb] at er
              rw [if_pos hb]
              refine m_paintRun hS3 p3 hy hyt (by omega) (by omega) (by omega) (by omega) hc fun h4 m4 p4 => ⟨rfl, m4.1, fun w => absurd w7 w, fun _ => ⟨by omega, fun w => by omega, fun _ => ?_⟩⟩
              rw [p4.2.2.2.2.1]
              refine ⟨by omega, fun _ => ?_, fun w => by omega⟩
              rw [prn_row (by omega) (by omega)] at p4
              exact ih (x6 + 1) _ c q2 _ h4 (by omega) (by omega) (by omega) (by omega) (by omega) hc (m23.tr (s3.pt m4)) (c3.sm m4 (by omega) (by omega) (by omega)) p4 er
            · rw [if_neg hb] at er
              rw [if_neg hb]
              refine m_paintRun hS3 p3 hy hyt (by omega) (by omega) (by omega) (by omega) hc fun h4 m4 p4 => ⟨rfl, m4.1, fun w => absurd w7 w, fun _ => ⟨by omega, fun _ => k0 er h4 (m23.tr (s3.pt m4)), fun w => by omega⟩⟩
          · rw [if_neg w7] at er
            rw [if_neg w7]
            refine m_paintRun hS3 p3 hy hyt (by omega) (by omega) (by omega) (by omega) hc fun h4 m4 p4 => ⟨rfl, m4.1, fun _ => ⟨by omega, fun w => k0 (er.trans (if_neg (by omega))) h4 (m23.tr (s3.pt m4)), fun w => ?_⟩, fun w => absurd w w7⟩
            rw [p4.2.2.2.2.1]
            refine ⟨by omega, fun w2 => ?_, fun w2 => k0 (er.trans (if_neg (by omega))) h4 (m23.tr (s3.pt m4))⟩
            rw [prn_row (by omega) (by omega)] at p4
            exact ih (x6 + 1) _ (1 - c) q2 _ h4 (by omega) (by omega) (by omega) (by omega) (by omega) (by omega) (m23.tr (s3.pt m4)) (c3.sm m4 (by omega) (by omega) (by omega)) p4 (er.trans (if_pos (by omega)))
        · rw [if_pos w8] at er
          have emx : (if A < 0 then 0 else A) = mx A := rfl
          rw [emx]
          refine m_unpackTwoRuns hS3 p3 c3 (tr.sm m23 (by omega) (by omega) (by omega)) hy hyt (by omega) (by omega) hc (fun n1 n2 q3 h2r h4 m4 c4 p4 => ?_) (fun h2r h4 m4 => ⟨_, rfl, m4.1, by omega, fun _ => k0 (by simp only [er, h2r]) h4 (m23.tr m4), fun w => by omega⟩)
          have tr2 := two_R h2r
          simp only [h2r] at er
          refine ⟨_, rfl, m4.1, by omega, fun w => by omega, fun _ => ?_⟩
          rw [p4.2.2.2.2.1]
          refine ⟨by omega, fun w2 => ?_, fun w2 => k0 (er.trans (if_pos (by omega))) h4 (m23.tr m4)⟩
          rw [prn_row (x := mx A) (by omega) (by omega), mx_nn (a := mx A) mr.1, prn_row (x := mx A + n1) (by omega) (by omega), mx_nn (a := mx A + n1) (by omega)] at p4
          exact ih (x6 + 1) _ c q3 _ h4 (by omega) (by omega) (by omega) (by omega) (by omega) hc (m23.tr m4) c4 p4 (er.trans (if_neg (by omega)))
      · simp only [er, hi]
  exact loop FU 0 (-1) 0 q _ h (FU_16 hel hln cr.2.2.2.1) (by omega) (by omega) (by omega) (by omega) (Or.inl rfl) sm.rf cr cp rfl
end RL
