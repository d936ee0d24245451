/-! the bytes of a strip; the scheme NONE in writing -/
def rbyte (g : Int) (f : Int → Int → Int) (y k : Int) : Int := if g = 0 then fp_bits (fun x => f x y) (8 * k) 8 else f k y
def rbn (g w : Int) : Int := if g = 0 then (w + 7) / 8 else w
def rowb (g w : Int) (f : Int → Int → Int) (y : Int) : List Int := (List.range' 0 (rbn g w).toNat).map fun k : Nat => rbyte g f y k
/-- the bytes of m rows from y on -/
def sb (g w : Int) (f : Int → Int → Int) (y : Int) : Nat → List Int
  | 0 => []
  | m + 1 => rowb g w f y ++ sb g w f (y + 1) m
theorem rowb_len (g w : Int) (f : Int → Int → Int) (y : Int) : (rowb g w f y).length = (rbn g w).toNat := by simp [rowb]
theorem sb_len (g w : Int) (f : Int → Int → Int) : ∀ (m : Nat) (y : Int), (sb g w f y m).length = m * (rbn g w).toNat
  | 0, y => by simp [sb]
  | m + 1, y => by rw [sb, List.length_append, rowb_len, sb_len g w f m, Nat.succ_mul]; omega
/-- what a picture can be -/
def pOK (g w t : Int) (f : Int → Int → Int) : Prop := (g = 0 ∨ g = 1) ∧ 1 ≤ w ∧ w ≤ 40 ∧ 1 ≤ t ∧ t ≤ 24 ∧ (g = 1 → w ≤ 20 ∧ t ≤ 20) ∧ (∀ x y, 0 ≤ f x y ∧ f x y ≤ (if g = 0 then 1 else 255)) ∧ ∀ x y, ¬ (0 ≤ x ∧ x < w ∧ 0 ≤ y ∧ y < t) → f x y = 0
theorem pOK.rb {g w t : Int} {f : Int → Int → Int} (h : pOK g w t f) : 1 ≤ rbn g w ∧ rbn g w ≤ 20 := by
  obtain ⟨hg, h1, h2, h3, h4, h5, -⟩ := h
  unfold rbn
  split
  · omega
  · have := h5 (by omega); omega
theorem pOK.byte {g w t : Int} {f : Int → Int → Int} (h : pOK g w t f) (y k : Int) : 0 ≤ rbyte g f y k ∧ rbyte g f y k < 256 := by
  obtain ⟨hg, h1, h2, h3, h4, h5, h6, -⟩ := h
  unfold rbyte
  split
  · rename_i hz
    have := fp_bits_R (f := fun x => f x y) (fun x => by have := h6 x y; rw [if_pos hz] at this; show f x y = 0 ∨ f x y = 1; omega) (8 * k) 8
    omega
  · rename_i hz
    have := h6 k y
    rw [if_neg hz] at this
    omega
/-- the class's picture at p is g, w, t, f -/
def cP (h : fx_H) (p : Nat) (g w t : Int) (f : Int → Int → Int) : Prop := fp_ok h p ∧ fp_pix h p ∧ 27 ≤ p ∧ h.2.1 p 1 = g ∧ h.2.1 p 2 = w ∧ h.2.1 p 3 = t ∧ (∀ x y, fp_px h p x y = f x y) ∧ pOK g w t f
theorem cP.sm {P : Nat → Prop} {h h2 : fx_H} {p : Nat} {g w t : Int} {f : Int → Int → Int} (c : cP h p g w t f) (a : sm P h h2) (hp : ¬ P p) (hp1 : ¬ P (p + 1)) : cP h2 p g w t f := by
  obtain ⟨c1, c2, c3, c4, c5, c6, c7, c8⟩ := c
  exact ⟨a.pic c1 hp, a.pix c2 hp hp1, c3, by rw [a.2.1 p 1 hp]; exact c4, by rw [a.2.1 p 2 hp]; exact c5, by rw [a.2.1 p 3 hp]; exact c6, fun x y => by rw [a.px hp hp1]; exact c7 x y, c8⟩
theorem cP.cs {h h2 : fx_H} {p : Nat} {g w t : Int} {f : Int → Int → Int} (c : cP h p g w t f) (a : cs h h2) : cP h2 p g w t f := c.sm a.1 (by have := c.2.2.1; omega) (by have := c.2.2.1; omega)
section ST
variable {l : Launch} {Q : Option Value → fx_H → Prop} {h : fx_H} {a : Nat → Nat} {pp dd p : Nat} {g w t : Int} {f : Int → Int → Int}
theorem m_rowBytesP (c : cP h p g w t f) (k : Q (some (.int (zI (rbn g w)))) h) : fx_Mt l M_PI_rowBytes (0, 0) [.ref p] h Q := by
  obtain ⟨c1, c2, c3, rfl, rfl, rfl, c7, c8⟩ := c
  exact m_rowBytes c1 k
theorem m_rowByteP {y k : Int} (c : cP h p g w t f) (hy : zR y) (hk : 0 ≤ k) (hk2 : k < 1000) (kk : Q (some (.int (zI (rbyte g f y k)))) h) : fx_Mt l M_PI_rowByte (0, 0) [.ref p, .int (zI y), .int (zI k)] h Q := by
  obtain ⟨c1, c2, c3, rfl, rfl, rfl, c7, c8⟩ := c
  refine m_rowByte c1 c2 hy hk hk2 ?_
  have e : fp_byte h p y k = rbyte (h.2.1 p 1) f y k := by
    unfold fp_byte rbyte
    rw [c7 k y, show (fun x => fp_px h p x y) = (fun x => f x y) from funext fun x => c7 x y]
  rw [e]
  exact kk
theorem m_PLpack {x y : Int} {L : List Int} {n : Nat} (hS : h.1 = fx_S0 a pp dd) (c : cP h p g w t f) (cw : cW h (L, [])) (hx : 0 ≤ x) (hn : x + n = y) (hy : y ≤ t) (cap : L.length + n * (rbn g w).toNat ≤ 2000) (k : ∀ h2, cs h h2 → cW h2 (L ++ sb g w f x n, []) → Q none h2) : fx_Mt l M_PL_pack (0, 0) [.ref 13, .ref p, .int (zI x), .int (zI y)] h Q := by
  obtain ⟨⟨a1, h1⟩, ⟨a2, h2⟩, -⟩ := id c.1
  have hrb := c.2.2.2.2.2.2.2.rb
  have ht4 : t ≤ 24 := c.2.2.2.2.2.2.2.2.2.2.2.1
  refine e_PL_pack hS h1 h2 (m_rowBytesP c ⟨_, rfl, rfl, ?_⟩)
  have rows : ∀ (m : Nat) (x : Int) (h3 : fx_H) (L3 : List Int), 0 ≤ x → x + m = y → L3.length + m * (rbn g w).toNat ≤ 2000 → cs h h3 → cW h3 (L3, []) → (∀ h2, cs h h2 → cW h2 (L3 ++ sb g w f x m, []) → Q none h2) →
      fx_V l M_PL_pack (0, 0) Q 0 0 9 [some (.ref 13), some (.ref p), none, some (.int (zI y)), some (.int (zI (rbn g w))), some (.int (zI x)), none] [] h3 := by
    intro m
    induction m with
    | zero =>
      intro x h3 L3 hx hm cap c3 cw k
      refine w_PL_pack_9 (c3.1.1.trans hS) (by rw [c3.1.1]; exact h1) (by rw [c3.1.1]; exact h2) ⟨by omega, by omega, fun _ => k h3 c3 (by simpa [sb] using cw), fun z => by omega⟩
    | succ m ih =>
      intro x h3 L3 hx hm cap c3 cw k
      refine w_PL_pack_9 (c3.1.1.trans hS) (by rw [c3.1.1]; exact h1) (by rw [c3.1.1]; exact h2) ⟨by omega, by omega, fun z => by omega, fun _ => ?_⟩
      have bytes : ∀ (j i : Nat) (h4 : fx_H) (L4 : List Int), i + j = (rbn g w).toNat → L4.length + j + m * (rbn g w).toNat ≤ 2000 → cs h h4 → cW h4 (L4, []) → (∀ h2, cs h h2 → cW h2 (L4 ++ (List.range' i j).map (fun k : Nat => rbyte g f x k) ++ sb g w f (x + 1) m, []) → Q none h2) →
          fx_V l M_PL_pack (0, 0) Q 0 0 18 [some (.ref 13), some (.ref p), none, some (.int (zI y)), some (.int (zI (rbn g w))), some (.int (zI x)), some (.int (zI (i : Nat)))] [] h4 := by
        intro j
        induction j with
        | zero =>
          intro i h4 L4 hi cap c4 cw4 k
          refine w_PL_pack_18 (c4.1.1.trans hS) (by rw [c4.1.1]; exact h1) (by rw [c4.1.1]; exact h2) ⟨by omega, by omega, fun _ => ?_, fun z => by omega⟩
          exact ih (x + 1) h4 L4 (by omega) (by omega) (by omega) c4 cw4 fun h5 c5 w5 => k h5 c5 (by simpa using w5)
        | succ j ihj =>
          intro i h4 L4 hi cap c4 cw4 k
          refine w_PL_pack_18 (c4.1.1.trans hS) (by rw [c4.1.1]; exact h1) (by rw [c4.1.1]; exact h2) ⟨by omega, by omega, fun z => by omega, fun _ => ?_⟩
          refine m_rowByteP (c.cs c4) (by omega) (by omega) (by omega) ⟨_, rfl, rfl, m_append (c4.1.1.trans hS) cw4 (by omega) fun h5 c5 w5 => ⟨rfl, c5.1.1, ?_⟩⟩
          have e : ((i : Nat) : Int) + 1 = ((i + 1 : Nat) : Int) := by omega
          rw [e]
          refine ihj (i + 1) h5 _ (by omega) (by simp; omega) (c4.tr c5) w5 fun h6 c6 w6 => k h6 c6 ?_
          rw [List.range'_succ, List.map_cons]
          simpa using w6
      refine bytes _ 0 h3 L3 (Nat.zero_add _) (by rw [Nat.succ_mul] at cap; omega) c3 cw fun h5 c5 w5 => k h5 c5 ?_
      rw [sb]
      simpa [rowb] using w5
  exact rows n x h L hx hn cap cs.rf cw k
end ST
