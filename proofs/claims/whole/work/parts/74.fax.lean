/-! G3 and G4 in writing -/
theorem tb_rest {s : WS} (h : s.2.length < 8) : tb (wrest s) ≤ tb s + 7 := by
  unfold wrest
  split
  · omega
  · rename_i hz
    have := List.length_pos_iff.mpr hz
    unfold tb
    simp
    omega
theorem isW_rest {s : WS} (ok : isW s) : isW (wrest s) := by
  unfold wrest
  split
  · exact ok
  · have hbv := bv_R s.2 ok.2.1
    have hw8 := ok.2.2
    have hp8 : bv s.2 * 2 ^ (8 - s.2.length) < 256 := by
      have h1 : (2 : Int) ^ s.2.length * 2 ^ (8 - s.2.length) = 256 := by rw [← Int.pow_add]; rw [show s.2.length + (8 - s.2.length) = 8 by omega]; rfl
      have h2 := two_pow_pos (8 - s.2.length)
      have h3 : bv s.2 * 2 ^ (8 - s.2.length) < 2 ^ s.2.length * 2 ^ (8 - s.2.length) := Int.mul_lt_mul_of_pos_right hbv.2 (by omega)
      omega
    have hp80 : 0 ≤ bv s.2 * 2 ^ (8 - s.2.length) := Int.mul_nonneg hbv.1 (by have := two_pow_pos (8 - s.2.length); omega)
    refine ⟨fun x hx => ?_, fun x hx => by simp at hx, by simp⟩
    rcases List.mem_append.mp hx with hx | hx
    · exact ok.1 x hx
    · rw [List.mem_singleton] at hx; subst hx; exact ⟨hp80, hp8⟩
theorem rest_nil (s : WS) : (wrest s).2 = [] := by
  unfold wrest
  split
  · assumption
  · rfl
theorem cst_R {w : Int} (h1 : 1 ≤ w) (h2 : w ≤ 40) : cst w (-1) ≤ 989 := by unfold cst; rw [if_pos (by omega)]; omega
section FX
variable {l : Launch} {Q : Option Value → fx_H → Prop} {h : fx_H} {a : Nat → Nat} {pp dd p : Nat} {g w t : Int} {f : Int → Int → Int} {mk : Int}
theorem pOK.r01 (h : pOK g w t f) (hg : g = 0) (x y : Int) : f x y = 0 ∨ f x y = 1 := by have := h.2.2.2.2.2.2.1 x y; rw [if_pos hg] at this; omega
theorem faxL_R {top y : Int} {s : WS} (hp : pOK g w t f) (hg : g = 0) (ok : isW s) : isW (faxL mk w f top y s) ∧ 2 * (tb (faxL mk w f top y s) : Int) ≤ 2 * tb s + 1015 := by
  have hw1 := hp.2.1
  have hw2 := hp.2.2.1
  have hc := cst_R hw1 hw2
  unfold faxL
  split
  · have := byA_R (r := fun i => f i y) (o := fun i => f i (if y = top then -1 else y - 1)) hw2 (w + 1).toNat (-1) 0 s (by omega) (by omega) (Or.inl rfl) ok
    exact ⟨this.1, by omega⟩
  · split
    · have o2 : isW (wbit (wbits s 1 12) 1) := isW_bit (isW_bits _ ok) (Or.inr rfl)
      have := byI_R (r := fun i => f i y) hw2 (fun i => hp.r01 hg i y) (w + 1).toNat 1 0 0 _ (by omega) (fun z => by omega) (by omega) (by omega) (Or.inl rfl) o2
      rw [tb_bit (isW_bits _ ok).2.2, tb_bits _ ok] at this
      exact ⟨this.1, by omega⟩
    · have o2 : isW (wbit (wbits s 1 12) 0) := isW_bit (isW_bits _ ok) (Or.inl rfl)
      have := byA_R (r := fun i => f i y) (o := fun i => f i (if y = top then -1 else y - 1)) hw2 (w + 1).toNat (-1) 0 _ (by omega) (by omega) (Or.inl rfl) o2
      rw [tb_bit (isW_bits _ ok).2.2, tb_bits _ ok] at this
      exact ⟨this.1, by omega⟩
theorem faxW_R {top : Int} (hp : pOK g w t f) (hg : g = 0) : ∀ (m : Nat) (y : Int) (s : WS), isW s → isW (faxW mk w f top m y s) ∧ (faxW mk w f top m y s).2 = [] ∧ 2 * (tb (faxW mk w f top m y s) : Int) ≤ 2 * tb s + m * 1015 + 62
  | 0, y, s, ok => by
    rw [faxW]
    have o2 : isW (if mk = 0 then wbits (wbits s 1 12) 1 12 else s) := by
      split
      · exact isW_bits _ (isW_bits _ ok)
      · exact ok
    have h1 := tb_rest o2.2.2
    refine ⟨isW_rest o2, rest_nil _, ?_⟩
    have h2 : tb (if mk = 0 then wbits (wbits s 1 12) 1 12 else s) ≤ tb s + 24 := by
      split
      · rw [tb_bits _ (isW_bits _ ok), tb_bits _ ok]; omega
      · omega
    omega
  | m + 1, y, s, ok => by
    rw [faxW]
    have a1 := faxL_R (mk := mk) (top := top) (y := y) hp hg ok
    have a2 := faxW_R (top := top) hp hg m (y + 1) _ a1.1
    refine ⟨a2.1, a2.2.1, ?_⟩
    have := a2.2.2
    have := a1.2
    rw [Int.natCast_succ, Int.add_mul]
    omega
theorem m_FXpack {x y : Int} {s : WS} {n q qa : Nat} (hS : h.1 = fx_S0 a pp dd) (hq : h.1[q]? = some (qa, .inl (9, [none, some 4, some 1, some 3]))) (hq2 : 3 ≤ q) (hmk : h.2.1 q 0 = mk) (hmk2 : mk = 0 ∨ mk = 1) (c : cP h p g w t f) (hg : g = 0) (cw : cW h s) (ok : isW s) (hx : 0 ≤ x) (hn : x + n = y) (hy : y ≤ t) (cap : 2 * (tb s : Int) + n * 1015 + 64 ≤ 32000) (k : ∀ h2, cs h h2 → cW h2 (faxW mk w f x n x s) → Q none h2) : fx_Mt l M_FX_pack (0, 0) [.ref q, .ref p, .int (zI x), .int (zI y)] h Q := by
  obtain ⟨⟨a1, h1⟩, ⟨a2, h2⟩, -⟩ := id c.1
  have hpk := c.2.2.2.2.2.2.2
  have hw1 := hpk.2.1
  have hw2 := hpk.2.2.1
  have ht4 : t ≤ 24 := hpk.2.2.2.2.1
  have hc := cst_R hw1 hw2
  refine e_FX_pack hS hq h1 h2 ?_
  have loop : ∀ (m : Nat) (z : Int) (s3 : WS) (h3 : fx_H), z + m = y → x ≤ z → isW s3 → 2 * (tb s3 : Int) + m * 1015 + 64 ≤ 32000 → cs h h3 → cW h3 s3 → (∀ h2, cs h h2 → cW h2 (faxW mk w f x m z s3) → Q none h2) →
      fx_V l M_FX_pack (0, 0) Q 0 0 3 [some (.ref q), some (.ref p), some (.int (zI x)), some (.int (zI y)), some (.int (zI z)), none] [] h3 := by
    intro m
    induction m with
    | zero =>
      intro z s3 h3 hz hxz ok3 cap3 c3 w3 kq
      have hS3 := c3.1.1.trans hS
      have hm3 : h3.2.1 q 0 = mk := by rw [c3.1.2.1 q 0 (by omega)]; exact hmk
      rw [faxW] at kq
      refine w_FX_pack_3 hS3 (by rw [c3.1.1]; exact hq) (by rw [c3.1.1]; exact h1) (by rw [c3.1.1]; exact h2) ⟨by omega, by omega, fun _ => ⟨by omega, fun z0 => ?_, fun z0 => ?_⟩, fun z => by omega⟩
      · rw [if_neg (by omega)] at kq
        exact m_endBits hS3 w3 fun h4 c4 w4 => ⟨rfl, c4.1.1, kq h4 (c3.tr c4) w4⟩
      · rw [if_pos (by omega)] at kq
        refine m_appendBits hS3 w3 ok3 (by omega) (by omega) (by omega) (by omega) fun h4 c4 w4 => ⟨rfl, c4.1.1, ?_⟩
        refine m_appendBits (c4.1.1.trans hS3) w4 (isW_bits _ ok3) (by omega) (by omega) (by omega) (by rw [tb_bits _ ok3]; omega) fun h5 c5 w5 => ⟨rfl, c5.1.1, ?_⟩
        exact m_endBits (c5.1.1.trans (c4.1.1.trans hS3)) w5 fun h6 c6 w6 => ⟨rfl, c6.1.1, kq h6 (((c3.tr c4).tr c5).tr c6) w6⟩
    | succ m ih =>
      intro z s3 h3 hz hxz ok3 cap3 c3 w3 kq
      have hS3 := c3.1.1.trans hS
      have hm3 : h3.2.1 q 0 = mk := by rw [c3.1.2.1 q 0 (by omega)]; exact hmk
      rw [faxW] at kq
      rw [Int.natCast_succ, Int.add_mul] at cap3
      have fR := faxL_R (mk := mk) (top := x) (y := z) (s := s3) hpk hg ok3
      have next : ∀ h4, cs h h4 → cW h4 (faxL mk w f x z s3) → fx_V l M_FX_pack (0, 0) Q 0 0 3 [some (.ref q), some (.ref p), some (.int (zI x)), some (.int (zI y)), some (.int (zI (z + 1))), none] [] h4 := fun h4 c4 w4 => ih (z + 1) _ h4 (by omega) (by omega) fR.1 (by omega) c4 w4 kq
      have other : ∀ (h4 : fx_H) (s4 : WS), cs h h4 → cW h4 s4 → isW s4 → tb s4 ≤ tb s3 + 13 → (∀ h5, cs h h5 → cW h5 (byA (fun i => f i z) (fun i => f i (if z = x then -1 else z - 1)) w (w + 1).toNat (-1) 0 s4) → cW h5 (faxL mk w f x z s3)) → zR x ∧ ((¬ z = x → fx_Mt l M_LI_packByAnother (0, 0) [.ref 4, .ref p, .int (zI z), .int (zI (z - 1))] h4 (fun v h50 => v = none ∧ h50.1 = h4.1 ∧ (fx_V l M_FX_pack (0, 0) Q 0 0 3 [some (.ref q), some (.ref p), some (.int (zI x)), some (.int (zI y)), some (.int (zI (z + 1))), none] [] h50))) ∧ (z = x → fx_Mt l M_LI_packByAnother (0, 0) [.ref 4, .ref p, .int (zI z), .int (zI (-1))] h4 (fun v h52 => v = none ∧ h52.1 = h4.1 ∧ (fx_V l M_FX_pack (0, 0) Q 0 0 3 [some (.ref q), some (.ref p), some (.int (zI x)), some (.int (zI y)), some (.int (zI (z + 1))), none] [] h52)))) := by
        intro h4 s4 c4 w4 ok4 t4 fin
        refine ⟨by omega, fun ze => ?_, fun ze => ?_⟩
        · refine m_packByAnother (c4.1.1.trans hS) (c.cs c4) hg w4 ok4 (by omega) (by omega) (by omega) fun h5 c5 w5 => ⟨rfl, c5.1.1, next h5 (c4.tr c5) (fin h5 (c4.tr c5) ?_)⟩
          rw [if_neg ze]; exact w5
        · refine m_packByAnother (c4.1.1.trans hS) (c.cs c4) hg w4 ok4 (by omega) (by omega) (by omega) fun h5 c5 w5 => ⟨rfl, c5.1.1, next h5 (c4.tr c5) (fin h5 (c4.tr c5) ?_)⟩
          rw [if_pos ze]; exact w5
      refine w_FX_pack_3 hS3 (by rw [c3.1.1]; exact hq) (by rw [c3.1.1]; exact h1) (by rw [c3.1.1]; exact h2) ⟨by omega, by omega, fun z => by omega, fun _ => ⟨by omega, fun z0 => ⟨fun _ => ?_, fun z1 => absurd z0 z1⟩, fun z0 => ⟨by omega, by omega, by omega, fun z4 => ⟨fun z1 => absurd z1 z0, fun _ => ?_⟩, fun z4 => ⟨fun z1 => absurd z1 z0, fun _ => ?_⟩⟩⟩⟩
      · refine other h3 s3 c3 w3 ok3 (by omega) fun h5 c5 w5 => ?_
        unfold faxL
        rw [if_pos (by omega)]; exact w5
      · refine m_appendBits hS3 w3 ok3 (by omega) (by omega) (by omega) (by omega) fun h4 c4 w4 => ⟨rfl, c4.1.1, ?_⟩
        refine m_appendBits (c4.1.1.trans hS3) w4 (isW_bits _ ok3) (by omega) (by omega) (by omega) (by rw [tb_bits _ ok3]; omega) fun h5 c5 w5 => ⟨rfl, c5.1.1, ?_⟩
        have e0 : wbits (wbits s3 1 (12 : Int).toNat) 0 (1 : Int).toNat = wbit (wbits s3 1 12) 0 := rfl
        rw [e0] at w5
        refine other h5 _ ((c3.tr c4).tr c5) w5 (isW_bit (isW_bits _ ok3) (Or.inl rfl)) (by rw [tb_bit (isW_bits _ ok3).2.2, tb_bits _ ok3]; omega) fun h6 c6 w6 => ?_
        unfold faxL
        rw [if_neg (by omega), if_neg z4]; exact w6
      · refine m_appendBits hS3 w3 ok3 (by omega) (by omega) (by omega) (by omega) fun h4 c4 w4 => ⟨rfl, c4.1.1, ?_⟩
        refine m_appendBits (c4.1.1.trans hS3) w4 (isW_bits _ ok3) (by omega) (by omega) (by omega) (by rw [tb_bits _ ok3]; omega) fun h5 c5 w5 => ⟨rfl, c5.1.1, ?_⟩
        have e0 : wbits (wbits s3 1 (12 : Int).toNat) 1 (1 : Int).toNat = wbit (wbits s3 1 12) 1 := rfl
        rw [e0] at w5
        refine m_packByItself (c5.1.1.trans (c4.1.1.trans hS3)) (c.cs ((c3.tr c4).tr c5)) hg w5 (isW_bit (isW_bits _ ok3) (Or.inr rfl)) (by omega) (by rw [tb_bit (isW_bits _ ok3).2.2, tb_bits _ ok3]; omega) fun h6 c6 w6 => ⟨rfl, c6.1.1, next h6 (((c3.tr c4).tr c5).tr c6) ?_⟩
        unfold faxL
        rw [if_neg (by omega), if_pos z4]; exact w6
  exact loop n x s h hn (Int.le_refl _) ok cap cs.rf cw k
end FX
