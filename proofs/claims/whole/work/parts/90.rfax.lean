/-! a fax strip told from bits; and the program's reading of it -/
noncomputable def opt {A : Type} (P : Prop) (x : A) : Option A := @ite _ P (Classical.propDecidable P) (some x) none
theorem opt_pos {A : Type} {P : Prop} (h : P) (x : A) : opt P x = some x := by unfold opt; exact @if_pos P (Classical.propDecidable P) h _ _ _
theorem opt_neg {A : Type} {P : Prop} (h : ¬ P) (x : A) : opt P x = none := by unfold opt; exact @if_neg P (Classical.propDecidable P) h _ _ _
theorem opt_some {A : Type} {P : Prop} {x y : A} (h : opt P x = some y) : P ∧ x = y := by
  by_cases hP : P
  · rw [opt_pos hP] at h; injection h with h; exact ⟨hP, h⟩
  · rw [opt_neg hP] at h; exact absurd h (by simp)
abbrev oth (f : Int → Int → Int) (top y : Int) : Int → Int := fun i => f i (if y = top then -1 else y - 1)
/-- the line y of a strip -/
def ln1 (L : List Int) (e w mk top y p : Int) (f : Int → Int → Int) : Option (Int × (Int → Int)) :=
  if mk = 1 then
    (if p + 13 ≤ e ∧ bn L p 12 = 1 ∧ (y = top → bt L (p + 12) = 1) then
      (if bt L (p + 12) = 1 then lnI L e w FU (p + 13) 0 0 (fun _ => 0) else lnA L e w (oth f top y) FU (p + 13) (-1) 0 (fun _ => 0))
    else none)
  else lnA L e w (oth f top y) FU p (-1) 0 (fun _ => 0)
def fxS (L : List Int) (e w mk top : Int) : Nat → Int → Int → (Int → Int → Int) → Option (Int × (Int → Int → Int))
  | 0, p, _, f => some (p, f)
  | n + 1, p, y, f =>
    match ln1 L e w mk top y p f with
    | none => none
    | some (q, r) => fxS L e w mk top n q (y + 1) (row f y r)
theorem fxS_z (L : List Int) (e w mk top p y : Int) (f : Int → Int → Int) : fxS L e w mk top 0 p y f = some (p, f) := rfl
theorem fxS_s (L : List Int) (e w mk top : Int) (n : Nat) (p y : Int) (f : Int → Int → Int) : fxS L e w mk top (n + 1) p y f = match ln1 L e w mk top y p f with
    | none => none
    | some (q, r) => fxS L e w mk top n q (y + 1) (row f y r) := rfl
/-- how a fax strip ends -/
def fxD (L : List Int) (e mk p : Int) : Prop := if mk = 1 then rest L p e else (p + 12 ≤ e ∧ bn L p 12 = 1) ∧ (p + 12 + 12 ≤ e ∧ bn L (p + 12) 12 = 1) ∧ rest L (p + 12 + 12) e
noncomputable def fxO (L : List Int) (e w mk top : Int) (n : Nat) (p : Int) (f : Int → Int → Int) : Option (Int → Int → Int) :=
  match fxS L e w mk top n p top f with
  | none => none
  | some (q, f2) => opt (fxD L e mk q) f2
theorem fxS_out {L : List Int} {e w mk top : Int} : ∀ {n : Nat} {p y : Int} {f : Int → Int → Int} {q : Int} {f2 : Int → Int → Int}, fxS L e w mk top n p y f = some (q, f2) → ∀ x v, (v < y ∨ y + n ≤ v) → f2 x v = f x v
  | 0, p, y, f, q, f2, h, x, v, hv => by
    unfold fxS at h
    injection h with h
    injection h with h1 h2
    rw [← h2]
  | n + 1, p, y, f, q, f2, h, x, v, hv => by
    unfold fxS at h
    split at h
    · exact absurd h (by simp)
    · rw [fxS_out h x v (by omega)]
      unfold row
      rw [if_neg (by omega)]
theorem fxO_out {L : List Int} {e w mk top p : Int} {n : Nat} {f f2 : Int → Int → Int} (h : fxO L e w mk top n p f = some f2) (x v : Int) (hv : v < top ∨ top + n ≤ v) : f2 x v = f x v := by
  unfold fxO at h
  split at h
  · exact absurd h (by simp)
  · rename_i q f3 h1
    have := (opt_some h).2
    subst this
    exact fxS_out h1 x v hv
theorem row_0 {f : Int → Int → Int} {y : Int} (h : ∀ x, f x y = 0) : row f y (fun _ => 0) = f := by
  funext a b
  unfold row
  split
  · rename_i hb; rw [hb, h]
  · rfl
section RX
variable {l : Launch} {Q : Option Value → fx_H → Prop} {h : fx_H} {a : Nat → Nat} {pp dd p : Nat} {L : List Int} {b q e z : Int} {g w t mk : Int} {f : Int → Int → Int} {fx fa : Nat}
theorem m_isMark (hS : h.1 = fx_S0 a pp dd) (hf : h.1[fx]? = some (fa, .inl (9, [none, some 4, some 1, some 3]))) (cr : cRd h L b q e) (k1 : q + 12 ≤ e ∧ bn L q 12 = 1 → ∀ h2, sm s3 h h2 → cRd h2 L b (q + 12) e → Q (some (.int (zI 1))) h2) (k0 : ¬ (q + 12 ≤ e ∧ bn L q 12 = 1) → ∀ h2, sm s3 h h2 → Q (some (.int (zI 0))) h2) : fx_Mt l M_FX_isMark (0, 0) [.ref fx] h Q := by
  have h0 := (bn_R L q 12).1
  have h1 := bn_lt L q (show 12 ≤ 12 by omega)
  refine e_FX_isMark hS hf ?_
  exact m_numberB (n := 12) hS cr (by omega) (fun z h2 m2 c2 => ⟨_, rfl, m2.1, by omega, fun z2 => k0 (fun u => z2 u.2) h2 m2, fun z2 => k1 ⟨z, z2⟩ h2 m2 c2⟩) (fun z => ⟨_, rfl, rfl, by omega, fun z2 => k0 (fun u => by have := u.1; omega) h sm.rf, fun z2 => by omega⟩)
theorem m_markedLine (hS : h.1 = fx_S0 a pp dd) (hf : h.1[fx]? = some (fa, .inl (9, [none, some 4, some 1, some 3]))) (cr : cRd h L b q e) (k1 : q + 13 ≤ e → bn L q 12 = 1 → ∀ h2, sm s3 h h2 → cRd h2 L b (q + 13) e → Q (some (.int (zI (bt L (q + 12))))) h2) (k0 : ¬ (q + 13 ≤ e ∧ bn L q 12 = 1) → ∀ h2, sm s3 h h2 → Q (some (.int (zI (-1)))) h2) : fx_Mt l M_FX_markedLine (0, 0) [.ref fx] h Q := by
  refine e_FX_markedLine hS hf ?_
  refine m_isMark hS hf cr (fun u h2 m2 c2 => ⟨_, rfl, m2.1, by omega, fun z => by omega, fun _ => ?_⟩) (fun u h2 m2 => ⟨_, rfl, m2.1, by omega, fun _ => k0 (fun u2 => u ⟨by omega, u2.2⟩) h2 m2, fun z => absurd rfl z⟩)
  refine m_bit (m2.1.trans hS) c2 (fun z h3 m3 c3 => ⟨_, rfl, m3.1, k1 (by omega) u.2 h3 (m2.tr m3) ?_⟩) (fun z => ⟨_, rfl, rfl, k0 (fun u2 => by omega) h2 m2⟩)
  have e1 : q + 12 + 1 = q + 13 := by omega
  rw [e1] at c3
  exact c3
theorem m_FXunpack {top bot : Int} {n : Nat} (hS : h.1 = fx_S0 a pp dd) (hf : h.1[fx]? = some (fa, .inl (9, [none, some 4, some 1, some 3]))) (hmk : h.2.1 fx 0 = mk) (hmk2 : mk = 0 ∨ mk = 1) (hfx : fx = 23 ∨ fx = 24) (cp : cP h p g w t f) (hg : g = 0) (hz : ∀ x y, top ≤ y → f x y = 0) (cr : cRd h L b q e) (tr : c3T h) (ht0 : 0 ≤ top) (htn : top + n = bot) (hbt : bot ≤ t) (k1 : ∀ f2, fxO L e w mk top n q f = some f2 → ∀ h2, sm (s3p p) h h2 → cP h2 p g w t f2 → cL h2 L b → Q (some (.int (zI 1))) h2) (k0 : fxO L e w mk top n q f = none → ∀ h2, sm (s3p p) h h2 → Q (some (.int (zI 0))) h2) : fx_Mt l M_FX_unpack (0, 0) [.ref fx, .ref p, .int (zI top), .int (zI bot)] h Q := by
  obtain ⟨⟨a1, s1⟩, ⟨a2, s2⟩, -⟩ := cp.1
  have hp27 := cp.2.2.1
  have ht24 : t ≤ 24 := cp.2.2.2.2.2.2.2.2.2.2.2.1
  refine e_FX_unpack hS hf s1 s2 ?_
  unfold fxO at k1 k0
  have loop : ∀ (m : Nat) (y q1 : Int) (f1 : Int → Int → Int) (h2 : fx_H), y + m = bot → top ≤ y → (∀ x v, y ≤ v → f1 x v = 0) → sm (s3p p) h h2 → cRd h2 L b q1 e → cP h2 p g w t f1 → fxS L e w mk top n q top f = fxS L e w mk top m q1 y f1 → fx_V l M_FX_unpack (0, 0) Q 0 0 3 [some (.ref fx), some (.ref p), some (.int (zI top)), some (.int (zI bot)), some (.int (zI y)), none, none] [] h2 := by
    intro m
    induction m with
    | zero =>
      intro y q1 f1 h2 hy hty hz1 m2 c2 p2 er
      have hS2 := m2.1.trans hS
      rw [fxS_z] at er
      rw [er] at k1 k0
      refine w_FX_unpack_3 hS2 (by rw [m2.1]; exact hf) (by rw [m2.1]; exact s1) (by rw [m2.1]; exact s2) ⟨by omega, by omega, fun _ => ?_, fun z => by omega⟩
      rw [m2.2.1 fx 0 (by omega), hmk]
      have fill : ∀ (h3 : fx_H) (q3 : Int), sm (s3p p) h h3 → cRd h3 L b q3 e → cP h3 p g w t f1 → (rest L q3 e ↔ fxD L e mk q1) → fx_Mt l M_BR_onlyFillLeft (0, 0) [.ref 3] h3 (fun v h6 => ∃ r8 : Int, v = some (.int (zI r8)) ∧ h6.1 = h3.1 ∧ zR r8 ∧ ((r8 = 0 → Q (some (.int (zI 0))) h6) ∧ (¬ (r8 = 0) → Q (some (.int (zI 1))) h6))) := by
        intro h3 q3 m3 c3 p3 hiff
        refine m_onlyFillLeft (m3.1.trans hS) c3 (fun u h4 m4 c4 => ⟨_, rfl, m4.1, by omega, fun z => by omega, fun _ => k1 f1 (opt_pos (hiff.mp u) _) h4 (m3.tr (s3.to m4)) (p3.sm m4 (by omega) (by omega)) c4.1⟩) (fun u h4 m4 => ⟨_, rfl, m4.1, by omega, fun _ => k0 (opt_neg (fun z => u (hiff.mpr z)) _) h4 (m3.tr (s3.to m4)), fun z => absurd rfl z⟩)
      refine ⟨by omega, fun z => fill h2 q1 m2 c2 p2 (by unfold fxD; rw [if_pos (by omega)]), fun z => ?_⟩
      have eD : fxD L e mk q1 ↔ (q1 + 12 ≤ e ∧ bn L q1 12 = 1) ∧ (q1 + 12 + 12 ≤ e ∧ bn L (q1 + 12) 12 = 1) ∧ rest L (q1 + 12 + 12) e := by unfold fxD; rw [if_neg (by omega)]
      refine m_isMark hS2 (by rw [m2.1]; exact hf) c2 (fun u h3 m3 c3 => ⟨_, rfl, m3.1, by omega, fun z => by omega, fun _ => ?_⟩) (fun u h3 m3 => ⟨_, rfl, m3.1, by omega, fun _ => k0 (opt_neg (fun z => u (eD.mp z).1) _) h3 (m2.tr (s3.to m3)), fun z => absurd rfl z⟩)
      have m23 := m2.tr (s3.to m3)
      refine m_isMark (m23.1.trans hS) (by rw [m23.1]; exact hf) c3 (fun u2 h4 m4 c4 => ⟨_, rfl, m4.1, by omega, fun z => by omega, fun _ => ?_⟩) (fun u2 h4 m4 => ⟨_, rfl, m4.1, by omega, fun _ => k0 (opt_neg (fun z => u2 (eD.mp z).2.1) _) h4 (m23.tr (s3.to m4)), fun z => absurd rfl z⟩)
      exact fill h4 _ (m23.tr (s3.to m4)) c4 ((p2.sm m3 (by omega) (by omega)).sm m4 (by omega) (by omega)) ⟨fun u3 => eD.mpr ⟨u, u2, u3⟩, fun u3 => (eD.mp u3).2.2⟩
    | succ m ih =>
      intro y q1 f1 h2 hy hty hz1 m2 c2 p2 er
      have hS2 := m2.1.trans hS
      rw [fxS_s] at er
      have r0 : row f1 y (fun _ => 0) = f1 := row_0 fun x => hz1 x y (by omega)
      -- behind a line that held
      have good : ∀ (q2 : Int) (r : Int → Int) (h3 : fx_H), ln1 L e w mk top y q1 f1 = some (q2, r) → sm (s3p p) h h3 → cRd h3 L b q2 e → cP h3 p g w t (row f1 y r) → fx_V l M_FX_unpack (0, 0) Q 0 0 3 [some (.ref fx), some (.ref p), some (.int (zI top)), some (.int (zI bot)), some (.int (zI (y + 1))), none, none] [] h3 := by
        intro q2 r h3 hl m3 c3 p3
        rw [hl] at er
        refine ih (y + 1) q2 _ h3 (by omega) (by omega) (fun x v hv => ?_) m3 c3 p3 er
        unfold row
        rw [if_neg (by omega)]
        exact hz1 x v (by omega)
      have lost : ln1 L e w mk top y q1 f1 = none → ∀ h3, sm (s3p p) h h3 → Q (some (.int (zI 0))) h3 := by
        intro hl h3 m3
        rw [hl] at er
        rw [er] at k0
        exact k0 rfl h3 m3
      have byA : ∀ (h3 : fx_H) (q2 ot : Int), sm (s3p p) h h3 → cRd h3 L b q2 e → cP h3 p g w t f1 → ot = (if y = top then -1 else y - 1) → ln1 L e w mk top y q1 f1 = lnA L e w (oth f1 top y) FU q2 (-1) 0 (fun _ => 0) → fx_Mt l M_LI_unpackByAnother (0, 0) [.ref 4, .ref p, .int (zI y), .int (zI ot)] h3 (fun v h31 => ∃ r33 : Int, v = some (.int (zI r33)) ∧ h31.1 = h3.1 ∧ zR r33 ∧ ((¬ r33 = 0 → (fx_V l M_FX_unpack (0, 0) Q 0 0 3 [some (.ref fx), some (.ref p), some (.int (zI top)), some (.int (zI bot)), some (.int (zI (y + 1))), none, none] [] h31)) ∧ (r33 = 0 → Q (some (.int (zI 0))) h31))) := by
        intro h3 q2 ot m3 c3 p3 hot hl
        have hotR : zR ot ∧ ¬ ot = y := by rw [hot]; split <;> omega
        rw [← r0] at p3
        unfold oth at hl
        rw [← hot] at hl
        refine m_unpackByAnother (m3.1.trans hS) p3 hg c3 (tr.sm m3 (by omega) (by omega) (by omega)) (by omega) (by omega) hotR.1 hotR.2 (fun q3 r hr h4 m4 c4 p4 => ⟨_, rfl, m4.1, by omega, fun _ => good q3 r h4 (hl.trans hr) (m3.tr m4) c4 p4, fun z => by omega⟩) (fun hr h4 m4 => ⟨_, rfl, m4.1, by omega, fun z => absurd rfl z, fun _ => lost (hl.trans hr) h4 (m3.tr m4)⟩)
      have byI : ∀ (h3 : fx_H) (q2 : Int), sm (s3p p) h h3 → cRd h3 L b q2 e → cP h3 p g w t f1 → ln1 L e w mk top y q1 f1 = lnI L e w FU q2 0 0 (fun _ => 0) → fx_Mt l M_LI_unpackByItself (0, 0) [.ref 4, .ref p, .int (zI y)] h3 (fun v h31 => ∃ r33 : Int, v = some (.int (zI r33)) ∧ h31.1 = h3.1 ∧ zR r33 ∧ ((¬ r33 = 0 → (fx_V l M_FX_unpack (0, 0) Q 0 0 3 [some (.ref fx), some (.ref p), some (.int (zI top)), some (.int (zI bot)), some (.int (zI (y + 1))), none, none] [] h31)) ∧ (r33 = 0 → Q (some (.int (zI 0))) h31))) := by
        intro h3 q2 m3 c3 p3 hl
        rw [← r0] at p3
        refine m_unpackByItself (m3.1.trans hS) p3 c3 (tr.sm m3 (by omega) (by omega) (by omega)) (by omega) (by omega) (fun q3 r hr h4 m4 c4 p4 => ⟨_, rfl, m4.1, by omega, fun _ => good q3 r h4 (hl.trans hr) (m3.tr m4) c4 p4, fun z => by omega⟩) (fun hr h4 m4 => ⟨_, rfl, m4.1, by omega, fun z => absurd rfl z, fun _ => lost (hl.trans hr) h4 (m3.tr m4)⟩)
      have f0 : ∀ h3, sm (s3p p) h h3 → h3.2.1 fx 0 = mk := fun h3 m3 => (m3.2.1 fx 0 (by omega)).trans hmk
      refine w_FX_unpack_3 hS2 (by rw [m2.1]; exact hf) (by rw [m2.1]; exact s1) (by rw [m2.1]; exact s2) ⟨by omega, by omega, fun z => by omega, fun _ => ?_⟩
      rw [f0 h2 m2]
      refine ⟨by omega, fun z => ⟨fun _ => ⟨by omega, fun zt => ?_, fun zt => ?_⟩, fun z2 => absurd z z2⟩, fun z => ?_⟩
      · exact byA h2 q1 _ m2 c2 p2 (by rw [if_neg zt]) (by unfold ln1; rw [if_neg (by omega)])
      · exact byA h2 q1 _ m2 c2 p2 (by rw [if_pos zt]) (by unfold ln1; rw [if_neg (by omega)])
      · have el : ln1 L e w mk top y q1 f1 = (if q1 + 13 ≤ e ∧ bn L q1 12 = 1 ∧ (y = top → bt L (q1 + 12) = 1) then (if bt L (q1 + 12) = 1 then lnI L e w FU (q1 + 13) 0 0 (fun _ => 0) else lnA L e w (oth f1 top y) FU (q1 + 13) (-1) 0 (fun _ => 0)) else none) := by unfold ln1; rw [if_pos (by omega)]
        refine m_markedLine hS2 (by rw [m2.1]; exact hf) c2 (fun u1 u2 h3 m3 c3 => ?_) (fun u h3 m3 => ⟨_, rfl, m3.1, by omega, fun _ => lost (by rw [el, if_neg (fun u9 => u ⟨u9.1, u9.2.1⟩)]) h3 (m2.tr (s3.to m3)), fun z9 => by omega⟩)
        have m23 := m2.tr (s3.to m3)
        have p3 : cP h3 p g w t f1 := p2.sm m3 (by omega) (by omega)
        have h01 := bt_01 L (q1 + 12)
        refine ⟨_, rfl, m3.1, by omega, fun z9 => by omega, fun _ => ?_⟩
        rw [f0 h3 m23]
        refine ⟨by omega, fun z9 => absurd z9 z, fun _ => ⟨by omega, fun zt => ⟨fun zb => ⟨fun _ => ?_, fun z9 => absurd z9 zt⟩, fun zb => ?_⟩, fun zt => ⟨fun zb => ⟨fun z9 => by omega, fun z9 => ?_⟩, fun zb => ?_⟩⟩⟩
        · exact byA h3 _ _ m23 c3 p3 (by rw [if_neg zt]) (by rw [el, if_pos ⟨u1, u2, fun z9 => absurd z9 zt⟩, if_neg zb])
        · exact byI h3 _ m23 c3 p3 (by rw [el, if_pos ⟨u1, u2, fun z9 => absurd z9 zt⟩, if_pos zb])
        · exact byI h3 _ m23 c3 p3 (by rw [el, if_pos ⟨u1, u2, fun _ => z9⟩, if_pos z9])
        · exact lost (by rw [el, if_neg (fun u9 => by have := u9.2.2 zt; omega)]) h3 m23
  exact loop n top q f h htn (by omega) hz sm.rf cr cp rfl
end RX
