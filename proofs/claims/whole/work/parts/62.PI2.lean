/-! Picture: painting, and where a row changes -/
theorem fp_inj {x y x2 y2 w : Int} (h1 : 0 ≤ x) (h2 : x < w) (h3 : 0 ≤ x2) (h4 : x2 < w) (e : y * w + x = y2 * w + x2) : x = x2 ∧ y = y2 := by
  have key : ∀ {a b c d : Int}, 0 ≤ a → a < w → 0 ≤ c → b * w + a = d * w + c → ¬ b < d := by
    intro a b c d ha hb hc e hlt
    have h5 : b * w ≤ (d - 1) * w := Int.mul_le_mul_of_nonneg_right (by omega) (by omega)
    rw [Int.sub_mul] at h5
    omega
  have a1 := key h1 h2 h3 e
  have a2 := key h3 h4 h1 e.symm
  have : y = y2 := by omega
  subst this
  exact ⟨by omega, rfl⟩
theorem px_paint {h : fx_H} {p : Nat} {x y u : Int} (ok : fp_ok h p) (hin : fp_in h p x y) (x2 y2 : Int) :
    fp_px (fx_uA h (p + 1) (y * h.2.1 p 2 + x).toNat u) p x2 y2 = if x2 = x ∧ y2 = y then u else fp_px h p x2 y2 := by
  obtain ⟨-, -, hg, hw1, hw2, hh1, hh2⟩ := ok
  unfold fp_px
  have hF : (fx_uA h (p + 1) (y * h.2.1 p 2 + x).toNat u).2.1 = h.2.1 := rfl
  by_cases hq : fp_in h p x2 y2
  · have hq2 : fp_in (fx_uA h (p + 1) (y * h.2.1 p 2 + x).toNat u) p x2 y2 := hq
    rw [if_pos hq2, if_pos hq, hF]
    obtain ⟨a1, a2⟩ := fp_mul hin.1 hin.2.1 hin.2.2.1 hin.2.2.2 hw2 hh2
    obtain ⟨b1, b2⟩ := fp_mul hq.1 hq.2.1 hq.2.2.1 hq.2.2.2 hw2 hh2
    by_cases he : x2 = x ∧ y2 = y
    · obtain ⟨rfl, rfl⟩ := he
      rw [if_pos ⟨rfl, rfl⟩, uA_s]
    · rw [if_neg he, uA_n]
      rintro ⟨-, e⟩
      have e2 : y2 * h.2.1 p 2 + x2 = y * h.2.1 p 2 + x := by omega
      exact he (fp_inj hq.1 hq.2.1 hin.1 hin.2.1 e2)
  · have hq2 : ¬ fp_in (fx_uA h (p + 1) (y * h.2.1 p 2 + x).toNat u) p x2 y2 := hq
    rw [if_neg hq2, if_neg hq, if_neg]
    rintro ⟨rfl, rfl⟩
    exact hq hin
theorem ok_paint {h : fx_H} {p q k : Nat} {u : Int} (ok : fp_ok h p) : fp_ok (fx_uA h q k u) p := ok
/-- what is behind the picture's last pixel stays -/
def fp_tail (h h2 : fx_H) (p : Nat) : Prop := ∀ i : Nat, h.2.1 p 2 * h.2.1 p 3 ≤ i → h2.2.2.1 (p + 1) i = h.2.2.1 (p + 1) i
theorem fp_lt {x y w t : Int} (hxw : x < w) (hy : 0 ≤ y) (hyt : y < t) (hw : 0 ≤ w) : y * w + x < w * t := by
  have h2 : y * w ≤ (t - 1) * w := Int.mul_le_mul_of_nonneg_right (by omega) hw
  rw [Int.sub_mul, Int.one_mul, Int.mul_comm t w] at h2
  omega
theorem tail_paint {h : fx_H} {p : Nat} {x y u : Int} (ok : fp_ok h p) (hin : fp_in h p x y) : fp_tail h (fx_uA h (p + 1) (y * h.2.1 p 2 + x).toNat u) p := by
  obtain ⟨-, -, hg, hw1, hw2, hh1, hh2⟩ := ok
  intro i hi
  have a := fp_lt hin.2.1 hin.2.2.1 hin.2.2.2 (by omega : (0 : Int) ≤ h.2.1 p 2)
  obtain ⟨a1, a2⟩ := fp_mul hin.1 hin.2.1 hin.2.2.1 hin.2.2.2 hw2 hh2
  rw [uA_n]
  rintro ⟨-, e⟩
  omega
/-- painted: only pixels, and these by f where it says something -/
def fp_pt (h h2 : fx_H) (p : Nat) (f : Int → Int → Option Int) : Prop := sm (fun j => j = p + 1) h h2 ∧ h2.2.1 = h.2.1 ∧ fp_tail h h2 p ∧ ∀ x y, fp_in h p x y → fp_px h2 p x y = (f x y).getD (fp_px h p x y)
theorem fp_pt.rf {h : fx_H} {p : Nat} {f : Int → Int → Option Int} (hf : ∀ x y, fp_in h p x y → f x y = none) : fp_pt h h p f := ⟨sm.rf, rfl, fun _ _ => rfl, fun x y hq => by rw [hf x y hq]; rfl⟩
theorem fp_pt.ok {h h2 : fx_H} {p : Nat} {f : Int → Int → Option Int} (a : fp_pt h h2 p f) (ok : fp_ok h p) : fp_ok h2 p := by
  obtain ⟨h1, h3, h4⟩ := ok
  exact ⟨by rw [a.1.1]; exact h1, by rw [a.1.1]; exact h3, by rw [a.2.1]; exact h4⟩
theorem fp_pt.in {h h2 : fx_H} {p : Nat} {f : Int → Int → Option Int} (a : fp_pt h h2 p f) (x y : Int) : fp_in h2 p x y ↔ fp_in h p x y := by unfold fp_in; rw [a.2.1]
theorem fp_pt.tr {h h2 h3 : fx_H} {p : Nat} {f f2 f3 : Int → Int → Option Int} (a : fp_pt h h2 p f) (b : fp_pt h2 h3 p f2) (hf : ∀ x y, fp_in h p x y → f3 x y = (match f2 x y with | some u => some u | none => f x y)) : fp_pt h h3 p f3 := by
  refine ⟨a.1.tr b.1, b.2.1.trans a.2.1, fun i hi => ?_, fun x y hq => ?_⟩
  · rw [b.2.2.1 i (by rw [a.2.1]; exact hi), a.2.2.1 i hi]
  · rw [b.2.2.2 x y ((a.in x y).mpr hq), a.2.2.2 x y hq, hf x y hq]
    cases f2 x y <;> rfl
theorem fp_pt.one {h : fx_H} {p : Nat} {x y u : Int} (ok : fp_ok h p) (hin : fp_in h p x y) : fp_pt h (fx_uA h (p + 1) (y * h.2.1 p 2 + x).toNat u) p (fun a b => if a = x ∧ b = y then some u else none) :=
  ⟨sm.uA rfl, rfl, tail_paint ok hin, fun a b _ => by rw [px_paint ok hin]; show _ = (if a = x ∧ b = y then some u else none).getD _; split <;> rfl⟩
section PJ
variable {l : Launch} {Q : Option Value → fx_H → Prop} {h : fx_H} {p : Nat}
/-- bit j of a byte, from the left -/
def fp_bit (b j : Int) : Int := b / 2 ^ (7 - j).toNat % 2
theorem m_paintRowByte {y k b : Int} (ok : fp_ok h p) (hy : 0 ≤ y) (hyt : y < h.2.1 p 3) (hk : 0 ≤ k) (hk2 : k < 1000) (hb : 0 ≤ b) (hb2 : b < 256)
    (k1 : (h.2.1 p 1 = 0 → ∀ j : Int, 0 ≤ j → j < 8 → fp_bit b j = 1 → 8 * k + j < h.2.1 p 2) → ∀ h2, fp_pt h h2 p (fun x2 y2 => if y2 = y then (if h.2.1 p 1 = 0 then (if 8 * k ≤ x2 ∧ x2 < 8 * k + 8 then some (fp_bit b (x2 - 8 * k)) else none) else if x2 = k then some b else none) else none) → Q (some (.int (zI 1))) h2)
    (k0 : h.2.1 p 1 = 0 → (∃ j : Int, 0 ≤ j ∧ j < 8 ∧ fp_bit b j = 1 ∧ ¬ 8 * k + j < h.2.1 p 2) → ∀ h2, sm (fun j => j = p + 1) h h2 → h2.2.1 = h.2.1 → fp_tail h h2 p → Q (some (.int (zI 0))) h2) :
    fx_Mt l M_PI_paintRowByte (0, 0) [.ref p, .int (zI y), .int (zI k), .int (zI b)] h Q := by
  obtain ⟨⟨a, h1⟩, ⟨a2, h2⟩, hg, hw1, hw2, hh1, hh2⟩ := id ok
  refine e_PI_paintRowByte h1 h2 ⟨by omega, fun z => ?_, fun z => ?_⟩
  · have loop : ∀ (m n : Nat) (h3 : fx_H), n + m = 8 → fp_pt h h3 p (fun x2 y2 => if y2 = y then (if 8 * k ≤ x2 ∧ x2 < 8 * k + n then some (fp_bit b (x2 - 8 * k)) else none) else none) → (∀ j : Int, 0 ≤ j → j < n → fp_bit b j = 1 → 8 * k + j < h.2.1 p 2) →
        fx_V l M_PI_paintRowByte (0, 0) Q 0 0 19 [some (.ref p), some (.int (zI y)), some (.int (zI k)), some (.int (zI b)), some (.int (zI (n : Nat))), none] [] h3 := by
      intro m
      induction m with
      | zero =>
        intro n h3 hn s1 s2
        have hn8 : n = 8 := by omega
        subst hn8
        refine w_PI_paintRowByte_19 (by rw [s1.1.1]; exact h1) (by rw [s1.1.1]; exact h2) ⟨by omega, fun _ => k1 (fun _ => s2) h3 ?_, fun z => absurd (by omega) z⟩
        obtain ⟨t1, t2, t3, t4⟩ := s1
        refine ⟨t1, t2, t3, fun x2 y2 hq => ?_⟩
        rw [t4 x2 y2 hq]
        simp only [if_pos z]
        rfl
      | succ m ih =>
        intro n h3 hn s1 s2
        have ok3 := s1.ok ok
        have hp2 : fp_bit b n = 0 ∨ fp_bit b n = 1 := by unfold fp_bit; omega
        have next : fp_in h3 p (8 * k + n) y → (fx_V l M_PI_paintRowByte (0, 0) Q 0 0 19 [some (.ref p), some (.int (zI y)), some (.int (zI k)), some (.int (zI b)), some (.int (zI ((n : Nat) + 1))), none] [] (fx_uA h3 (p + 1) (y * h3.2.1 p 2 + (8 * k + n)).toNat (fp_bit b n))) := by
          intro hq
          have e : ((n : Nat) : Int) + 1 = ((n + 1 : Nat) : Int) := by omega
          rw [e]
          refine ih (n + 1) _ (by omega) (s1.tr (fp_pt.one ok3 hq) fun x2 y2 _ => ?_) fun j j0 jn jb => ?_
          · by_cases hy2 : y2 = y
            · subst hy2
              simp only [if_true, and_true]
              by_cases hx : x2 = 8 * k + n
              · subst hx
                rw [if_pos (by omega), if_pos rfl]
                simp only
                congr 2
                omega
              · rw [if_neg hx]
                simp only
                by_cases hx2 : 8 * k ≤ x2 ∧ x2 < 8 * k + n
                · rw [if_pos (by omega), if_pos hx2]
                · rw [if_neg (by omega), if_neg hx2]
            · simp only [hy2, if_false, and_false]
          · by_cases hj : j = n
            · subst hj
              have := hq.2.1
              rw [s1.2.1] at this
              exact this
            · exact s2 j j0 (by omega) jb
        have skip : ¬ fp_in h3 p (8 * k + n) y → fp_bit b n = 0 → (fx_V l M_PI_paintRowByte (0, 0) Q 0 0 19 [some (.ref p), some (.int (zI y)), some (.int (zI k)), some (.int (zI b)), some (.int (zI ((n : Nat) + 1))), none] [] h3) := by
          intro hq h0
          have e : ((n : Nat) : Int) + 1 = ((n + 1 : Nat) : Int) := by omega
          rw [e]
          obtain ⟨t1, t2, t3, t4⟩ := s1
          refine ih (n + 1) _ (by omega) ⟨t1, t2, t3, fun x2 y2 hi => ?_⟩ fun j j0 jn jb => ?_
          · rw [t4 x2 y2 hi]
            by_cases hy2 : y2 = y
            · subst hy2
              simp only [if_true]
              have : x2 ≠ 8 * k + n := by
                rintro rfl
                exact hq (by unfold fp_in; rw [t2]; exact hi)
              by_cases hx2 : 8 * k ≤ x2 ∧ x2 < 8 * k + n
              · rw [if_pos hx2, if_pos (by omega)]
              · rw [if_neg hx2, if_neg (by omega)]
            · simp only [hy2, if_false]
          · by_cases hj : j = n
            · subst hj; omega
            · exact s2 j j0 (by omega) jb
        refine w_PI_paintRowByte_19 (by rw [s1.1.1]; exact h1) (by rw [s1.1.1]; exact h2) ⟨by omega, fun z => by omega, fun _ => ⟨by omega, by omega, ?_, fun zb => ?_, fun zb => ?_⟩⟩
        · show zR (fp_bit b n); omega
        · have h0 : fp_bit b n = 0 := by rcases hp2 with h | h; exact h; exact absurd h zb
          refine m_paint ok3 (by omega) (by omega) (fun hq => ⟨rfl, rfl, next hq⟩) (fun hq => ⟨rfl, rfl, skip hq h0⟩)
        · refine m_has ok3 (by omega) (by omega) (fun hq => ⟨1, rfl, rfl, by omega, fun _ => ?_, fun z => absurd z (by decide)⟩) (fun hq => ⟨0, rfl, rfl, by omega, fun z => absurd rfl z, fun _ => ?_⟩)
          · exact m_paint ok3 (by omega) (by omega) (fun hq => ⟨rfl, rfl, next hq⟩) (fun hq2 => absurd hq hq2)
          · refine k0 z ⟨n, by omega, by omega, zb, fun hlt => hq ⟨by omega, by rw [s1.2.1]; exact hlt, hy, by rw [s1.2.1]; exact hyt⟩⟩ h3 s1.1 s1.2.1 s1.2.2.1
    refine loop 8 0 h rfl (fp_pt.rf fun x2 y2 _ => ?_) (fun j j0 jn => by omega)
    split
    · rw [if_neg (by omega)]
    · rfl
  · refine m_paint ok (by omega) (by omega) (fun hq => ⟨rfl, rfl, k1 (fun z0 => absurd z0 z) _ ?_⟩) (fun hq => ⟨rfl, rfl, k1 (fun z0 => absurd z0 z) h (fp_pt.rf fun x2 y2 hi => ?_)⟩)
    · obtain ⟨t1, t2, t3, t4⟩ := fp_pt.one (u := b) ok hq
      refine ⟨t1, t2, t3, fun x2 y2 hi => ?_⟩
      rw [t4 x2 y2 hi]
      by_cases hy2 : y2 = y
      · subst hy2
        simp only [if_true, and_true, z, if_false]
      · simp only [hy2, and_false, if_false]
    · by_cases hy2 : y2 = y
      · subst hy2
        simp only [if_true, z, if_false]
        rw [if_neg]
        rintro rfl
        exact hq hi
      · simp only [hy2, if_false]
end PJ
