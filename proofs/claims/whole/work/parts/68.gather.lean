/-! the reference gathers the bytes of a strip -/
def mP (h : fx_H) (g w t : Int) (f : Int → Int → Int) : Prop := h.2.1 31 14 = g ∧ h.2.1 31 15 = w ∧ h.2.1 31 16 = t ∧ (∀ x y, 0 ≤ x → x < w → 0 ≤ y → y < t → h.2.2.1 32 (w * y + x).toNat = f x y) ∧ pOK g w t f
theorem mP.mo {PA PF : Nat → Prop} {h h2 : fx_H} {g w t : Int} {f : Int → Int → Int} (c : mP h g w t f) (m : mo PA PF h h2) (hA : ¬ PA 32) (hF : ¬ PF 14 ∧ ¬ PF 15 ∧ ¬ PF 16) : mP h2 g w t f := by
  obtain ⟨c1, c2, c3, c4, c5⟩ := c
  exact ⟨(m.2 14 hF.1).trans c1, (m.2 15 hF.2.1).trans c2, (m.2 16 hF.2.2).trans c3, fun x y h1 h3 h4 h5 => by rw [m.1.2.2.1 32 _ (by rintro (z | z); omega; exact hA z)]; exact c4 x y h1 h3 h4 h5, c5⟩
abbrev gA : Nat → Prop := fun j => j = 38
abbrev gF : Nat → Prop := fun k => k = 27
/-- the gathered bytes -/
def mS (h : fx_H) (B : List Int) : Prop := h.2.1 31 27 = B.length ∧ ∀ i : Nat, i < B.length → h.2.2.1 38 i = B.getD i 0
section GA
variable {l : Launch} {Q : Option Value → fx_H → Prop} {h : fx_H} {a : Nat → Nat} {pp dd : Nat} {g w t : Int} {f : Int → Int → Int}
theorem m_MOrowBytes (c : mP h g w t f) (hS : h.1 = fx_S0 a pp dd) (k : Q (some (.int (zI (rbn g w)))) h) : fx_Mt l M_MO_rowBytes (0, 0) [.ref 31] h Q := by
  obtain ⟨rfl, rfl, rfl, c4, c5⟩ := c
  obtain ⟨hg, h1, h2, -⟩ := id c5
  unfold rbn at k
  refine e_MO_rowBytes hS ⟨by omega, fun z => ⟨by omega, by omega, ?_⟩, fun z => ?_⟩
  · rw [if_pos z] at k; exact k
  · rw [if_neg z] at k; exact k
theorem mS_snoc {h : fx_H} {B : List Int} {b : Int} (hs : mS h B) : mS (fx_uF (fx_uA h 38 (h.2.1 31 27).toNat b) 31 27 (h.2.1 31 27 + 1)) (B ++ [b]) := by
  obtain ⟨c1, c2⟩ := hs
  refine ⟨?_, fun i hi => ?_⟩
  · rw [uF_s, c1]; simp
  · show (fx_uA h 38 (h.2.1 31 27).toNat b).2.2.1 38 i = _
    rw [c1, Int.toNat_natCast, getD_snoc]
    by_cases hi2 : i = B.length
    · subst hi2; rw [uA_s, if_pos rfl]
    · rw [uA_n _ _ (fun z => hi2 z.2), if_neg hi2]
      refine c2 i ?_
      simp at hi; omega
theorem m_gather {x : Int} {n : Nat} (hS : h.1 = fx_S0 a pp dd) (c : mP h g w t f) (hx : 0 ≤ x) (hn : x + n ≤ t) (cap : n * (rbn g w).toNat ≤ 400) (k : ∀ h2, mo gA gF h h2 → mS h2 (sb g w f x n) → Q none h2) : fx_Mt l M_MO_gather (0, 0) [.ref 31, .int (zI x), .int (zI (n : Nat))] h Q := by
  have hrb := c.2.2.2.2.rb
  obtain ⟨hg, hw1, hw2, ht1, ht2, hg1, hf, hf0⟩ := id c.2.2.2.2
  refine e_MO_gather hS ?_
  have rows : ∀ (m : Nat) (y : Int) (h3 : fx_H) (B : List Int), 0 ≤ y → y + m = x + n → B.length + m * (rbn g w).toNat ≤ 400 → mo gA gF h h3 → mS h3 B → (∀ h2, mo gA gF h h2 → mS h2 (B ++ sb g w f y m) → Q none h2) →
      fx_V l M_MO_gather (0, 0) Q 0 0 7 [some (.ref 31), some (.int (zI x)), some (.int (zI (n : Nat))), some (.int (zI y)), none, none, none] [] h3 := by
    intro m
    induction m with
    | zero =>
      intro y h3 B hy hm cap c3 s3 k
      exact w_MO_gather_7 (c3.S.trans hS) ⟨by omega, by omega, fun _ => k h3 c3 (by simpa [sb] using s3), fun z => by omega⟩
    | succ m ih =>
      intro y h3 B hy hm cap c3 s3 k
      refine w_MO_gather_7 (c3.S.trans hS) ⟨by omega, by omega, fun z => by omega, fun _ => ?_⟩
      have bytes : ∀ (j i : Nat) (h4 : fx_H) (B4 : List Int), i + j = (rbn g w).toNat → B4.length + j + m * (rbn g w).toNat ≤ 400 → mo gA gF h h4 → mS h4 B4 → (∀ h2, mo gA gF h h2 → mS h2 (B4 ++ (List.range' i j).map (fun k : Nat => rbyte g f y k) ++ sb g w f (y + 1) m) → Q none h2) →
          fx_V l M_MO_gather (0, 0) Q 0 0 17 [some (.ref 31), some (.int (zI x)), some (.int (zI (n : Nat))), some (.int (zI y)), some (.int (zI (i : Nat))), none, none] [] h4 := by
        intro j
        induction j with
        | zero =>
          intro i h4 B4 hi cap c4 s4 k
          refine w_MO_gather_17 (c4.S.trans hS) (m_MOrowBytes (c.mo c4 (by omega) ⟨by omega, by omega, by omega⟩) (c4.S.trans hS) ⟨_, rfl, rfl, by omega, by omega, fun _ => ?_, fun z => by omega⟩)
          exact ih (y + 1) h4 B4 (by omega) (by omega) (by omega) c4 s4 fun h5 c5 w5 => k h5 c5 (by simpa using w5)
        | succ j ihj =>
          intro i h4 B4 hi cap c4 s4 k
          have cm := c.mo c4 (by omega) ⟨by omega, by omega, by omega⟩
          refine w_MO_gather_17 (c4.S.trans hS) (m_MOrowBytes cm (c4.S.trans hS) ⟨_, rfl, rfl, by omega, by omega, fun z => by omega, fun _ => ?_⟩)
          have e : ((i : Nat) : Int) + 1 = ((i + 1 : Nat) : Int) := by omega
          have hl : h4.2.1 31 27 = B4.length := s4.1
          have stored : ∀ b : Int, b = rbyte g f y i → fx_V l M_MO_gather (0, 0) Q 0 0 17 [some (.ref 31), some (.int (zI x)), some (.int (zI (n : Nat))), some (.int (zI y)), some (.int (zI (((i : Nat) : Int) + 1))), none, none] [] (fx_uF (fx_uA h4 38 (h4.2.1 31 27).toNat b) 31 27 (h4.2.1 31 27 + 1)) := by
            intro b hb
            rw [e]
            refine ihj (i + 1) _ (B4 ++ [b]) (by omega) (by simp; omega) (c4.tr ((mo.uA (PA := gA) (show gA 38 from rfl)).tr (mo.uF rfl))) (mS_snoc s4) fun h6 c6 w6 => k h6 c6 ?_
            rw [List.range'_succ, List.map_cons, ← hb]
            simpa using w6
          have hq : ∀ z : Int, 0 ≤ z → z < w → 0 ≤ w * y + z ∧ w * y + z < 960 := by
            intro z z0 z1
            have := fp_mul z0 z1 hy (show y < t by omega) hw2 ht2
            rw [Int.mul_comm w y]
            exact this
          have bits : ∀ (m2 n2 : Nat) (b : Int), n2 + m2 = 8 → (g = 0 → b = fp_bits (fun x => f x y) (8 * i) n2) → fx_V l M_MO_gather (0, 0) Q 0 0 36 [some (.ref 31), some (.int (zI x)), some (.int (zI (n : Nat))), some (.int (zI y)), some (.int (zI (i : Nat))), some (.int (zI b)), some (.int (zI (8 * (i : Int) + (n2 : Nat))))] [] h4 := by
            intro m2
            induction m2 with
            | zero =>
              intro n2 b hn2 hb
              have : n2 = 8 := by omega
              subst this
              refine w_MO_gather_36 (c4.S.trans hS) ⟨by omega, by omega, fun _ => ⟨by rw [cm.1]; omega, fun z => ⟨by omega, by omega, stored b ?_⟩, fun z => ⟨?_, ?_, by omega, by omega, stored _ ?_⟩⟩, fun z => by omega⟩
              · rw [cm.1] at z
                rw [hb z]; unfold rbyte; rw [if_pos z]
              · have hgi : ((i : Nat) : Int) < w := by
                  rw [cm.1] at z
                  have : (rbn g w) = w := by unfold rbn; rw [if_neg z]
                  omega
                rw [cm.2.1]; exact (hq i (by omega) hgi).1
              · have hgi : ((i : Nat) : Int) < w := by
                  rw [cm.1] at z
                  have : (rbn g w) = w := by unfold rbn; rw [if_neg z]
                  omega
                rw [cm.2.1]; exact (hq i (by omega) hgi).2
              · have hgi : ((i : Nat) : Int) < w := by
                  rw [cm.1] at z
                  have : (rbn g w) = w := by unfold rbn; rw [if_neg z]
                  omega
                rw [cm.2.1, cm.2.2.2.1 i y (by omega) hgi hy (by omega)]
                rw [cm.1] at z
                unfold rbyte; rw [if_neg z]
            | succ m2 ihb =>
              intro n2 b hn2 hb
              have e2 : 8 * (i : Int) + ((n2 : Nat) : Int) + 1 = 8 * (i : Int) + ((n2 + 1 : Nat) : Int) := by omega
              refine w_MO_gather_36 (c4.S.trans hS) ⟨by omega, by omega, fun z => by omega, fun _ => ⟨by rw [cm.1]; omega, fun z => ?_, fun z => ⟨by rw [cm.2.1]; omega, fun z2 => ?_, fun z2 => ⟨?_, ?_, ?_⟩⟩⟩⟩
              · rw [e2]
                refine ihb (n2 + 1) _ (by omega) fun h0 => absurd h0 ?_
                rw [cm.1] at z; exact z
              · rw [e2]
                refine ihb (n2 + 1) _ (by omega) fun h0 => ?_
                rw [fp_bits, hb h0, hf0 _ _ (by rw [cm.2.1] at z2; omega)]
              · rw [cm.2.1] at z2 ⊢; exact (hq _ (by omega) (by omega)).1
              · rw [cm.2.1] at z2 ⊢; exact (hq _ (by omega) (by omega)).2
              · rw [e2]
                refine ihb (n2 + 1) _ (by omega) fun h0 => ?_
                rw [cm.2.1] at z2 ⊢
                rw [fp_bits, hb h0, cm.2.2.2.1 _ y (by omega) (by omega) hy (by omega)]
          have := bits 8 0 0 rfl (fun _ => rfl)
          simpa using this
      refine bytes _ 0 h3 B (Nat.zero_add _) (by rw [Nat.succ_mul] at cap; omega) c3 s3 fun h5 c5 w5 => k h5 c5 ?_
      rw [sb]
      simpa [rowb] using w5
  refine rows n x (fx_uF h 31 27 0) [] hx rfl (by simpa using cap) (mo.uF rfl) ⟨by rw [uF_s]; rfl, fun i hi => by simp at hi⟩ fun h2 m2 s2 => k h2 m2 (by simpa using s2)
end GA
