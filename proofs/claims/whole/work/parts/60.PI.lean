/-! Picture: its contracts -/
abbrev fp_in (h : fx_H) (p : Nat) (x y : Int) : Prop := 0 ≤ x ∧ x < h.2.1 p 2 ∧ 0 ≤ y ∧ y < h.2.1 p 3
def fp_px (h : fx_H) (p : Nat) (x y : Int) : Int := if fp_in h p x y then h.2.2.1 (p + 1) (y * h.2.1 p 2 + x).toNat else 0
/-- a picture lies at p: its shape, and its measures -/
def fp_ok (h : fx_H) (p : Nat) : Prop := (∃ a, h.1[p]? = some (a, .inl (10, [some (p + 1), none, none, none]))) ∧ (∃ a, h.1[p + 1]? = some (a, .inr (0, 960))) ∧ (h.2.1 p 1 = 0 ∨ h.2.1 p 1 = 1) ∧ 1 ≤ h.2.1 p 2 ∧ h.2.1 p 2 ≤ 40 ∧ 1 ≤ h.2.1 p 3 ∧ h.2.1 p 3 ≤ 24
/-- its pixels: 0 or 1, or a byte where it is gray -/
def fp_pix (h : fx_H) (p : Nat) : Prop := ∀ i : Nat, i < 960 → 0 ≤ h.2.2.1 (p + 1) i ∧ h.2.2.1 (p + 1) i ≤ (if h.2.1 p 1 = 0 then 1 else 255)
theorem fp_mul {x y w t : Int} (hx : 0 ≤ x) (hxw : x < w) (hy : 0 ≤ y) (hyt : y < t) (hw : w ≤ 40) (ht : t ≤ 24) : 0 ≤ y * w + x ∧ y * w + x < 960 := by
  have h1 : 0 ≤ y * w := Int.mul_nonneg hy (by omega)
  have h2 : y * w ≤ 23 * w := Int.mul_le_mul_of_nonneg_right (by omega) (by omega)
  omega
theorem fp_px_R {h : fx_H} {p : Nat} (ok : fp_ok h p) (px : fp_pix h p) (x y : Int) : 0 ≤ fp_px h p x y ∧ fp_px h p x y ≤ (if h.2.1 p 1 = 0 then 1 else 255) := by
  unfold fp_px
  split
  · rename_i q
    obtain ⟨q1, q2, q3, q4⟩ := q
    obtain ⟨-, -, hg, hw1, hw2, hh1, hh2⟩ := ok
    obtain ⟨g1, g2⟩ := fp_mul q1 q2 q3 q4 hw2 hh2
    exact px _ (by omega)
  · split <;> omega
theorem fp_px_01 {h : fx_H} {p : Nat} (ok : fp_ok h p) (px : fp_pix h p) (hg : h.2.1 p 1 = 0) (x y : Int) : fp_px h p x y = 0 ∨ fp_px h p x y = 1 := by
  have := fp_px_R ok px x y
  rw [if_pos hg] at this
  omega
section PI
variable {l : Launch} {Q : Option Value → fx_H → Prop} {h : fx_H} {p : Nat}
theorem m_has {x y : Int} (ok : fp_ok h p) (hx : zR x) (hy : zR y) (k1 : fp_in h p x y → Q (some (.int (zI 1))) h) (k0 : ¬ fp_in h p x y → Q (some (.int (zI 0))) h) : fx_Mt l M_PI_has (0, 0) [.ref p, .int (zI x), .int (zI y)] h Q := by
  obtain ⟨⟨a, h1⟩, ⟨b, h2⟩, hg, hw1, hw2, hh1, hh2⟩ := ok
  refine e_PI_has h1 h2 ⟨hx, fun z => k0 (fun q => ?_), fun z => ⟨by omega, fun z2 => k0 (fun q => ?_), fun z2 => ⟨hy, fun z3 => k0 (fun q => ?_), fun z3 => ⟨by omega, fun z4 => k0 (fun q => ?_), fun z4 => k1 ⟨?_, ?_, ?_, ?_⟩⟩⟩⟩⟩ <;> (try obtain ⟨q1, q2, q3, q4⟩ := q) <;> omega
theorem m_pixel {x y : Int} (ok : fp_ok h p) (hx : zR x) (hy : zR y) (k : Q (some (.int (zI (fp_px h p x y)))) h) : fx_Mt l M_PI_pixel (0, 0) [.ref p, .int (zI x), .int (zI y)] h Q := by
  obtain ⟨⟨a, h1⟩, ⟨b, h2⟩, hg, hw1, hw2, hh1, hh2⟩ := id ok
  refine e_PI_pixel h1 h2 (m_has ok hx hy (fun q => ⟨1, rfl, rfl, by omega, fun z => absurd z (by decide), fun _ => ?_⟩) (fun q => ⟨0, rfl, rfl, by omega, fun _ => ?_, fun z => absurd rfl z⟩))
  · obtain ⟨g1, g2⟩ := fp_mul q.1 q.2.1 q.2.2.1 q.2.2.2 hw2 hh2
    have e : fp_px h p x y = h.2.2.1 (p + 1) (y * h.2.1 p 2 + x).toNat := if_pos q
    rw [e] at k
    exact ⟨g1, g2, k⟩
  · have e : fp_px h p x y = 0 := if_neg q
    rw [e] at k
    exact k
theorem m_paint {x y u : Int} (ok : fp_ok h p) (hx : zR x) (hy : zR y) (k1 : fp_in h p x y → Q none (fx_uA h (p + 1) (y * h.2.1 p 2 + x).toNat u)) (k0 : ¬ fp_in h p x y → Q none h) : fx_Mt l M_PI_paint (0, 0) [.ref p, .int (zI x), .int (zI y), .int (zI u)] h Q := by
  obtain ⟨⟨a, h1⟩, ⟨b, h2⟩, hg, hw1, hw2, hh1, hh2⟩ := id ok
  refine e_PI_paint h1 h2 (m_has ok hx hy (fun q => ⟨1, rfl, rfl, by omega, fun z => absurd z (by decide), fun _ => ?_⟩) (fun q => ⟨0, rfl, rfl, by omega, fun _ => k0 q, fun z => absurd rfl z⟩))
  obtain ⟨g1, g2⟩ := fp_mul q.1 q.2.1 q.2.2.1 q.2.2.2 hw2 hh2
  exact ⟨g1, g2, k1 q⟩
/-- how many bytes a row has -/
def fp_rb (h : fx_H) (p : Nat) : Int := if h.2.1 p 1 = 0 then (h.2.1 p 2 + 7) / 8 else h.2.1 p 2
theorem m_rowBytes (ok : fp_ok h p) (k : Q (some (.int (zI (fp_rb h p)))) h) : fx_Mt l M_PI_rowBytes (0, 0) [.ref p] h Q := by
  obtain ⟨⟨a, h1⟩, ⟨b, h2⟩, hg, hw1, hw2, hh1, hh2⟩ := id ok
  unfold fp_rb at k
  refine e_PI_rowBytes h1 h2 ⟨by omega, fun z => ⟨by omega, by omega, ?_⟩, fun z => ?_⟩
  · rw [if_pos z] at k; exact k
  · rw [if_neg z] at k; exact k
/-- n bits from place x on, as a number -/
def fp_bits (f : Int → Int) (x : Int) : Nat → Int
  | 0 => 0
  | n + 1 => 2 * fp_bits f x n + f (x + n)
theorem fp_bits_R {f : Int → Int} (hf : ∀ x, f x = 0 ∨ f x = 1) (x : Int) : ∀ n : Nat, 0 ≤ fp_bits f x n ∧ fp_bits f x n < 2 ^ n
  | 0 => ⟨by simp [fp_bits], by simp [fp_bits]⟩
  | n + 1 => by
    have h1 := fp_bits_R hf x n
    have h2 := hf (x + n)
    have h3 : (2 : Int) ^ (n + 1) = 2 * 2 ^ n := by rw [Int.pow_succ]; omega
    simp only [fp_bits, h3]
    omega
theorem zor_bit {a r : Int} (ha : 0 ≤ a) (hr : r = 0 ∨ r = 1) : zor (a * 2 ^ 1) r = 2 * a + r := by
  unfold zor
  have h1 : (a * 2 ^ 1).toNat = 2 ^ 1 * a.toNat := by omega
  have h2 : r.toNat < 2 ^ 1 := by omega
  rw [h1, ← Nat.two_pow_add_eq_or_of_lt h2]
  omega
/-- the byte k of row y -/
def fp_byte (h : fx_H) (p : Nat) (y k : Int) : Int := if h.2.1 p 1 = 0 then fp_bits (fun x => fp_px h p x y) (8 * k) 8 else fp_px h p k y
theorem m_rowByte {y k : Int} (ok : fp_ok h p) (px : fp_pix h p) (hy : zR y) (hk : 0 ≤ k) (hk2 : k < 1000) (kk : Q (some (.int (zI (fp_byte h p y k)))) h) : fx_Mt l M_PI_rowByte (0, 0) [.ref p, .int (zI y), .int (zI k)] h Q := by
  obtain ⟨⟨a, h1⟩, ⟨b, h2⟩, hg, hw1, hw2, hh1, hh2⟩ := id ok
  unfold fp_byte at kk
  refine e_PI_rowByte h1 h2 ⟨by omega, fun z => ?_, fun z => ?_⟩
  · rw [if_pos z] at kk
    have hf : ∀ x, fp_px h p x y = 0 ∨ fp_px h p x y = 1 := fun x => fp_px_01 ok px z x y
    have loop : ∀ m n : Nat, n + m = 8 → fx_V l M_PI_rowByte (0, 0) Q 0 0 22 [some (.ref p), some (.int (zI y)), some (.int (zI k)), some (.int (zI (fp_bits (fun x => fp_px h p x y) (8 * k) n))), some (.int (zI (8 * k + n)))] [] h := by
      intro m
      induction m with
      | zero =>
        intro n hn
        have hn8 : n = 8 := by omega
        subst hn8
        exact w_PI_rowByte_22 h1 h2 ⟨by omega, by omega, fun _ => kk, fun z => absurd (show 8 * k + 8 ≤ 8 * k + ((8 : Nat) : Int) by omega) z⟩
      | succ m ih =>
        intro n hn
        have hb := fp_bits_R hf (8 * k) n
        have hp2 : (2 : Int) ^ n ≤ 2 ^ 8 := by
          have : (2 : Int) ^ 8 = 2 ^ n * 2 ^ (8 - n) := by rw [← Int.pow_add]; congr 1; omega
          have := two_pow_pos (8 - n)
          have := two_pow_pos n
          have h5 : (2 : Int) ^ n * 1 ≤ 2 ^ n * 2 ^ (8 - n) := Int.mul_le_mul_of_nonneg_left (by omega) (by omega)
          omega
        have hfx := hf (8 * k + n)
        refine w_PI_rowByte_22 h1 h2 ⟨by omega, by omega, fun z => by omega, fun _ => ?_⟩
        refine m_pixel ok (by omega) hy ⟨_, rfl, rfl, by omega, by omega, by omega, by omega, ?_⟩
        rw [zor_bit hb.1 hfx]
        have e : 8 * k + (n : Int) + 1 = 8 * k + ((n + 1 : Nat) : Int) := by omega
        rw [e]
        exact ih (n + 1) (by omega)
    have := loop 8 0 rfl
    simpa [fp_bits] using this
  · rw [if_neg z] at kk
    exact m_pixel ok (by omega) hy ⟨_, rfl, rfl, kk⟩
/-- the first place from x on, below w, where q holds; else w -/
def fp_first (q : Int → Prop) [DecidablePred q] (x : Int) : Nat → Int
  | 0 => x
  | n + 1 => if q x then x else fp_first q (x + 1) n
theorem m_firstUnlike {y x c : Int} (ok : fp_ok h p) (px : fp_pix h p) (hy : zR y) (hx : -1 ≤ x) (hx2 : x ≤ 1000) (hc : zR c) (kk : Q (some (.int (zI (if h.2.1 p 2 ≤ x then h.2.1 p 2 else fp_first (fun i => fp_px h p i y ≠ c) x (h.2.1 p 2 - x).toNat)))) h) : fx_Mt l M_PI_firstUnlike (0, 0) [.ref p, .int (zI y), .int (zI x), .int (zI c)] h Q := by
  obtain ⟨⟨a, h1⟩, ⟨b, h2⟩, hg, hw1, hw2, hh1, hh2⟩ := id ok
  refine e_PI_firstUnlike h1 h2 ?_
  have hr : ∀ i, zR (fp_px h p i y) := fun i => by have := fp_px_R ok px i y; split at this <;> omega
  have loop : ∀ (m : Nat) (x : Int), -1 ≤ x → x ≤ 1000 → (h.2.1 p 2 - x).toNat = m → Q (some (.int (zI (if h.2.1 p 2 ≤ x then h.2.1 p 2 else fp_first (fun i => fp_px h p i y ≠ c) x m)))) h →
      fx_V l M_PI_firstUnlike (0, 0) Q 0 0 3 [some (.ref p), some (.int (zI y)), none, some (.int (zI c)), some (.int (zI x))] [] h := by
    intro m
    induction m with
    | zero =>
      intro x hx hx2 hm kk
      have hle : h.2.1 p 2 ≤ x := by omega
      rw [if_pos hle] at kk
      exact w_PI_firstUnlike_3 h1 h2 ⟨by omega, by omega, fun _ => kk, fun z => absurd hle z⟩
    | succ m ih =>
      intro x hx hx2 hm kk
      have hle : ¬ h.2.1 p 2 ≤ x := by omega
      rw [if_neg hle] at kk
      refine w_PI_firstUnlike_3 h1 h2 ⟨by omega, by omega, fun z => absurd z hle, fun _ => ?_⟩
      refine m_pixel ok (by omega) hy ⟨_, rfl, rfl, hr _, hc, fun z => ?_, fun z => ?_⟩
      · refine ih (x + 1) (by omega) (by omega) (by omega) ?_
        unfold fp_first at kk
        rw [if_neg (fun q => q z)] at kk
        by_cases h9 : h.2.1 p 2 ≤ x + 1
        · rw [if_pos h9]
          have hm0 : m = 0 := by omega
          subst hm0
          unfold fp_first at kk
          have : x + 1 = h.2.1 p 2 := by omega
          rw [← this]
          exact kk
        · rw [if_neg h9]
          exact kk
      · unfold fp_first at kk
        rw [if_pos z] at kk
        exact kk
  exact loop _ x hx hx2 rfl kk
end PI
