/-! the class packs its strips, and writes -/
theorem pOK.strip {g w t : Int} {f : Int → Int → Int} (h : pOK g w t f) {n : Nat} (hn : (n : Int) ≤ t) : n * (rbn g w).toNat ≤ 400 := by
  obtain ⟨hg, h1, h2, h3, h4, h5, -⟩ := h
  unfold rbn
  split
  · have : n * ((w + 7) / 8).toNat ≤ 24 * 5 := Nat.mul_le_mul (by omega) (by omega)
    omega
  · have := h5 (by omega)
    have : n * w.toNat ≤ 20 * 20 := Nat.mul_le_mul (by omega) (by omega)
    omega
theorem zC_0 {a b : Int} : zC a b = 0 ↔ a = b := by
  unfold zC; split
  · constructor <;> intro <;> omega
  · split <;> constructor <;> intro <;> omega
/-- what the packings know -/
def fxM (h : fx_H) : Prop := h.2.1 23 0 = 1 ∧ h.2.1 24 0 = 0
theorem fxM.ck {h h2 : fx_H} (c : fxM h) (m : ck h h2) : fxM h2 := ⟨by rw [m.1.2.1 23 0 (by omega)]; exact c.1, by rw [m.1.2.1 24 0 (by omega)]; exact c.2⟩
/-- file, scratch, places and sizes -/
def cq (h h2 : fx_H) : Prop := sm (fun j => j = 1 ∨ j = 2 ∨ (14 ≤ j ∧ j ≤ 22) ∨ j = 25 ∨ j = 26) h h2 ∧ h2.2.1 1 2 = h.2.1 1 2
theorem cq.rf {h : fx_H} : cq h h := ⟨sm.rf, rfl⟩
theorem cq.tr {h h2 h3 : fx_H} (a : cq h h2) (b : cq h2 h3) : cq h h3 := ⟨a.1.tr b.1, b.2.trans a.2⟩
theorem ck.cq {h h2 : fx_H} (a : ck h h2) : cq h h2 := ⟨a.1.mono fun q z => by omega, a.2⟩
theorem cq.uA {h : fx_H} {q k : Nat} {x : Int} (hq : q = 25 ∨ q = 26) : cq h (fx_uA h q k x) := ⟨sm.uA (by omega), rfl⟩
theorem cP.cq {h h2 : fx_H} {p : Nat} {g w t : Int} {f : Int → Int → Int} (c : cP h p g w t f) (a : cq h h2) : cP h2 p g w t f := c.sm a.1 (by have := c.2.2.1; omega) (by have := c.2.2.1; omega)
theorem fxM.cq {h h2 : fx_H} (c : fxM h) (m : cq h h2) : fxM h2 := ⟨by rw [m.1.2.1 23 0 (by omega)]; exact c.1, by rw [m.1.2.1 24 0 (by omega)]; exact c.2⟩
section FQ
variable {l : Launch} {Q : Option Value → fx_H → Prop} {h : fx_H} {a : Nat → Nat} {pp dd : Nat} {g w t : Int} {f : Int → Int → Int} {x : Int} {n : Nat} {L : List Int}
theorem pair_nil {s : WS} (h : s.2 = []) : s = (s.1, []) := by obtain ⟨x, y⟩ := s; simp only at h; subst h; rfl
theorem pk_13 (hS : h.1 = fx_S0 a pp dd) (_ : fxM h) (c : cP h pp g w t f) (cw : cW h (L, [])) (hB : isB L) (hs : sOK 1 g) (hx : 0 ≤ x) (hn1 : 1 ≤ n) (hn : x + n ≤ t) (cap : L.length + 68 * n ≤ 1800) (k : ∀ h2, ck h h2 → cW h2 (wst 1 g w f x n L, []) → Q none h2) : fx_Mt l M_PL_pack (0, 0) [.ref 13, .ref pp, .int (zI x), .int (zI (x + n))] h Q := by
  have hp := c.2.2.2.2.2.2.2
  have hrb := hp.rb
  have h2 : n * (rbn g w).toNat ≤ n * 20 := Nat.mul_le_mul_left _ (by omega)
  refine m_PLpack hS c cw hx rfl hn (by omega) fun h2 c2 w2 => k h2 c2.ck ?_
  unfold wst; rw [if_pos rfl]; exact w2
theorem pk_14 (hS : h.1 = fx_S0 a pp dd) (_ : fxM h) (c : cP h pp g w t f) (cw : cW h (L, [])) (hB : isB L) (hs : sOK 32773 g) (hx : 0 ≤ x) (hn1 : 1 ≤ n) (hn : x + n ≤ t) (cap : L.length + 68 * n ≤ 1800) (k : ∀ h2, ck h h2 → cW h2 (wst 32773 g w f x n L, []) → Q none h2) : fx_Mt l M_RU_pack (0, 0) [.ref 14, .ref pp, .int (zI x), .int (zI (x + n))] h Q := by
  have hp := c.2.2.2.2.2.2.2
  have hrb := hp.rb
  have h2 : n * (2 * (rbn g w).toNat) ≤ n * 40 := Nat.mul_le_mul_left _ (by omega)
  refine m_RUpack hS c cw hx rfl hn (by omega) fun h2 c2 w2 => k h2 c2 ?_
  unfold wst; rw [if_neg (by omega), if_pos rfl]; exact w2
theorem pk_16 (hS : h.1 = fx_S0 a pp dd) (_ : fxM h) (c : cP h pp g w t f) (cw : cW h (L, [])) (hB : isB L) (hs : sOK 5 g) (hx : 0 ≤ x) (hn1 : 1 ≤ n) (hn : x + n ≤ t) (cap : L.length + 68 * n ≤ 1800) (k : ∀ h2, ck h h2 → cW h2 (wst 5 g w f x n L, []) → Q none h2) : fx_Mt l M_TA_pack (0, 0) [.ref 16, .ref pp, .int (zI x), .int (zI (x + n))] h Q := by
  have hp := c.2.2.2.2.2.2.2
  have hrb := hp.rb
  have hst := hp.strip (n := n) (by omega)
  have h2 : n * (rbn g w).toNat ≤ n * 20 := Nat.mul_le_mul_left _ (by omega)
  have h3 : 1 ≤ n * (rbn g w).toNat := Nat.mul_pos (by omega) (by omega)
  have ht : tb (L, []) = 8 * L.length := by unfold tb; simp
  refine m_TApack hS c cw (isW_nil hB) hx hn1 rfl hn hst (by omega) fun h2 c2 w2 => k h2 c2 ?_
  unfold wst; rw [if_neg (by omega), if_neg (by omega), if_pos rfl]
  rw [pair_nil (tabW_R h3 (isW_nil hB)).2.1] at w2
  exact w2
theorem pk_23 (hS : h.1 = fx_S0 a pp dd) (m : fxM h) (c : cP h pp g w t f) (cw : cW h (L, [])) (hB : isB L) (hs : sOK 3 g) (hx : 0 ≤ x) (hn1 : 1 ≤ n) (hn : x + n ≤ t) (cap : L.length + 68 * n ≤ 1800) (k : ∀ h2, ck h h2 → cW h2 (wst 3 g w f x n L, []) → Q none h2) : fx_Mt l M_FX_pack (0, 0) [.ref 23, .ref pp, .int (zI x), .int (zI (x + n))] h Q := by
  have hp := c.2.2.2.2.2.2.2
  have ht : tb (L, []) = 8 * L.length := by unfold tb; simp
  have hg := hs.2 (Or.inl rfl)
  refine m_FXpack hS (at_23 hS) (by omega) m.1 (Or.inr rfl) c hg cw (isW_nil hB) hx rfl hn (by omega) fun h2 c2 w2 => k h2 c2.ck ?_
  unfold wst; rw [if_neg (by omega), if_neg (by omega), if_neg (by omega), if_pos rfl]
  rw [pair_nil (faxW_R (mk := 1) (top := x) hp hg n x _ (isW_nil hB)).2.1] at w2
  exact w2
theorem pk_24 (hS : h.1 = fx_S0 a pp dd) (m : fxM h) (c : cP h pp g w t f) (cw : cW h (L, [])) (hB : isB L) (hs : sOK 4 g) (hx : 0 ≤ x) (hn1 : 1 ≤ n) (hn : x + n ≤ t) (cap : L.length + 68 * n ≤ 1800) (k : ∀ h2, ck h h2 → cW h2 (wst 4 g w f x n L, []) → Q none h2) : fx_Mt l M_FX_pack (0, 0) [.ref 24, .ref pp, .int (zI x), .int (zI (x + n))] h Q := by
  have hp := c.2.2.2.2.2.2.2
  have ht : tb (L, []) = 8 * L.length := by unfold tb; simp
  have hg := hs.2 (Or.inr rfl)
  refine m_FXpack hS (at_24 hS) (by omega) m.2 (Or.inl rfl) c hg cw (isW_nil hB) hx rfl hn (by omega) fun h2 c2 w2 => k h2 c2.ck ?_
  unfold wst; rw [if_neg (by omega), if_neg (by omega), if_neg (by omega), if_neg (by omega)]
  rw [pair_nil (faxW_R (mk := 0) (top := x) hp hg n x _ (isW_nil hB)).2.1] at w2
  exact w2
theorem m_packStrips_13 {rows : Int} {m : Nat} (hS : h.1 = fx_S0 a pp dd) (q : pd pp dd) (fm : fxM h) (c : cP h pp g w t f) (hs : sOK 1 g) (hr : rOK t rows m) (cw : cW h (L, [])) (hL : L.length = 8) (hB : isB L) (k : ∀ h2, cq h h2 → cW h2 (stp 1 g w t f rows L m, []) → (∀ i : Nat, i < m → h2.2.2.1 25 i = ((stp 1 g w t f rows L i).length : Int) ∧ h2.2.2.1 26 i = ((stp 1 g w t f rows L (i + 1)).length : Int) - (stp 1 g w t f rows L i).length) → Q none h2) : fx_Mt l M_FP_packStrips (0, 0) [.ref 0, .ref 13, .int (zI rows), .int (zI (m : Nat))] h Q := by
  have hp := c.2.2.2.2.2.2.2
  have ht4 : t ≤ 24 := hp.2.2.2.2.1
  have hrl := hr.le
  have hr1 := hr.1
  have hr2 := hr.2.1
  refine e_FP_packStrips_13 hS (pA hS q) (pB hS q) (dA hS q) (dB hS q) ?_
  have loop : ∀ (j i : Nat) (h3 : fx_H), i + j = m → cq h h3 → cW h3 (stp 1 g w t f rows L i, []) → (∀ i2 : Nat, i2 < i → h3.2.2.1 25 i2 = ((stp 1 g w t f rows L i2).length : Int) ∧ h3.2.2.1 26 i2 = ((stp 1 g w t f rows L (i2 + 1)).length : Int) - (stp 1 g w t f rows L i2).length) →
      fx_V l M_FP_packStrips (0, 0) Q 0 0 3 [some (.ref 0), some (.ref 13), some (.int (zI rows)), some (.int (zI (m : Nat))), some (.int (zI (i : Nat)))] [] h3 := by
    intro j
    induction j with
    | zero =>
      intro i h3 hi c3 w3 d3
      have hS3 := c3.1.1.trans hS
      have him : i = m := by omega
      rw [him] at w3 d3 ⊢
      exact w_FP_packStrips_3_13 hS3 (pA hS3 q) (pB hS3 q) (dA hS3 q) (dB hS3 q) ⟨by omega, by omega, fun _ => k h3 c3 w3 d3, fun z => by omega⟩
    | succ j ih =>
      intro i h3 hi c3 w3 d3
      have hS3 := c3.1.1.trans hS
      have hn := nst_R hr (show i < m by omega)
      have hlt := hr.lt (show i < m by omega)
      have hst := stp_R hp hs hr hL hB i (by omega)
      have hi0 : 0 ≤ (i : Int) * rows := Int.mul_nonneg (by omega) (by omega)
      have e1 : ((i : Int) + 1) * rows = i * rows + rows := by rw [Int.add_mul, Int.one_mul]
      have hst2 : ((stp 1 g w t f rows L i).length : Int) ≤ 8 + 68 * (i * rows) := by have := hst.2.2; rw [if_pos hlt] at this; exact this
      have hl3 := w3.len
      refine w_FP_packStrips_3_13 hS3 (pA hS3 q) (pB hS3 q) (dA hS3 q) (dB hS3 q) ⟨by omega, by omega, fun z => by omega, fun _ => ⟨fun z => by omega, fun _ => ⟨by omega, by omega, ?_⟩⟩⟩
      rw [(c.cq c3).2.2.2.2.2.1]
      refine ⟨by omega, by omega, ?_⟩
      rw [← hn.2.2, Int.toNat_natCast]
      have c3' : cq h (fx_uA h3 25 i (h3.2.1 1 1)) := c3.tr (cq.uA (Or.inl rfl))
      refine pk_13 (h := fx_uA h3 25 i (h3.2.1 1 1)) hS3 (fm.cq c3') (c.cq c3') (w3.uA (by omega)) hst.1 hs hi0 hn.1 hn.2.1 (by omega) fun h4 c4 w4 => ⟨rfl, c4.1.1, by omega, by omega, by omega, by omega, ?_⟩
      have e : ((i : Nat) : Int) + 1 = ((i + 1 : Nat) : Int) := by omega
      have hl4 := w4.len
      have h425 : h4.2.2.1 25 i = ((stp 1 g w t f rows L i).length : Int) := by rw [c4.1.2.2.1 25 i (by omega), uA_s, hl3]
      rw [e, hl4, h425]
      refine ih (i + 1) _ (by omega) (c3'.tr (c4.cq.tr (cq.uA (Or.inr rfl)))) (w4.uA (by omega)) fun i2 hi2 => ?_
      by_cases h9 : i2 = i
      · subst h9
        refine ⟨?_, ?_⟩
        · rw [uA_n _ _ (by omega)]; exact h425
        · rw [uA_s]; rfl
      · have d9 := d3 i2 (by omega)
        refine ⟨?_, ?_⟩
        · rw [uA_n _ _ (by omega), c4.1.2.2.1 25 i2 (by omega), uA_n _ _ (by omega)]; exact d9.1
        · rw [uA_n _ _ (by omega), c4.1.2.2.1 26 i2 (by omega), uA_n _ _ (by omega)]; exact d9.2
  exact loop m 0 h (Nat.zero_add _) cq.rf cw fun i2 hi2 => by omega
theorem m_packStrips_14 {rows : Int} {m : Nat} (hS : h.1 = fx_S0 a pp dd) (q : pd pp dd) (fm : fxM h) (c : cP h pp g w t f) (hs : sOK 32773 g) (hr : rOK t rows m) (cw : cW h (L, [])) (hL : L.length = 8) (hB : isB L) (k : ∀ h2, cq h h2 → cW h2 (stp 32773 g w t f rows L m, []) → (∀ i : Nat, i < m → h2.2.2.1 25 i = ((stp 32773 g w t f rows L i).length : Int) ∧ h2.2.2.1 26 i = ((stp 32773 g w t f rows L (i + 1)).length : Int) - (stp 32773 g w t f rows L i).length) → Q none h2) : fx_Mt l M_FP_packStrips (0, 0) [.ref 0, .ref 14, .int (zI rows), .int (zI (m : Nat))] h Q := by
  have hp := c.2.2.2.2.2.2.2
  have ht4 : t ≤ 24 := hp.2.2.2.2.1
  have hrl := hr.le
  have hr1 := hr.1
  have hr2 := hr.2.1
  refine e_FP_packStrips_14 hS (pA hS q) (pB hS q) (dA hS q) (dB hS q) ?_
  have loop : ∀ (j i : Nat) (h3 : fx_H), i + j = m → cq h h3 → cW h3 (stp 32773 g w t f rows L i, []) → (∀ i2 : Nat, i2 < i → h3.2.2.1 25 i2 = ((stp 32773 g w t f rows L i2).length : Int) ∧ h3.2.2.1 26 i2 = ((stp 32773 g w t f rows L (i2 + 1)).length : Int) - (stp 32773 g w t f rows L i2).length) →
      fx_V l M_FP_packStrips (0, 0) Q 0 0 3 [some (.ref 0), some (.ref 14), some (.int (zI rows)), some (.int (zI (m : Nat))), some (.int (zI (i : Nat)))] [] h3 := by
    intro j
    induction j with
    | zero =>
      intro i h3 hi c3 w3 d3
      have hS3 := c3.1.1.trans hS
      have him : i = m := by omega
      rw [him] at w3 d3 ⊢
      exact w_FP_packStrips_3_14 hS3 (pA hS3 q) (pB hS3 q) (dA hS3 q) (dB hS3 q) ⟨by omega, by omega, fun _ => k h3 c3 w3 d3, fun z => by omega⟩
    | succ j ih =>
      intro i h3 hi c3 w3 d3
      have hS3 := c3.1.1.trans hS
      have hn := nst_R hr (show i < m by omega)
      have hlt := hr.lt (show i < m by omega)
      have hst := stp_R hp hs hr hL hB i (by omega)
      have hi0 : 0 ≤ (i : Int) * rows := Int.mul_nonneg (by omega) (by omega)
      have e1 : ((i : Int) + 1) * rows = i * rows + rows := by rw [Int.add_mul, Int.one_mul]
      have hst2 : ((stp 32773 g w t f rows L i).length : Int) ≤ 8 + 68 * (i * rows) := by have := hst.2.2; rw [if_pos hlt] at this; exact this
      have hl3 := w3.len
      refine w_FP_packStrips_3_14 hS3 (pA hS3 q) (pB hS3 q) (dA hS3 q) (dB hS3 q) ⟨by omega, by omega, fun z => by omega, fun _ => ⟨fun z => by omega, fun _ => ⟨by omega, by omega, ?_⟩⟩⟩
      rw [(c.cq c3).2.2.2.2.2.1]
      refine ⟨by omega, by omega, ?_⟩
      rw [← hn.2.2, Int.toNat_natCast]
      have c3' : cq h (fx_uA h3 25 i (h3.2.1 1 1)) := c3.tr (cq.uA (Or.inl rfl))
      refine pk_14 (h := fx_uA h3 25 i (h3.2.1 1 1)) hS3 (fm.cq c3') (c.cq c3') (w3.uA (by omega)) hst.1 hs hi0 hn.1 hn.2.1 (by omega) fun h4 c4 w4 => ⟨rfl, c4.1.1, by omega, by omega, by omega, by omega, ?_⟩
      have e : ((i : Nat) : Int) + 1 = ((i + 1 : Nat) : Int) := by omega
      have hl4 := w4.len
      have h425 : h4.2.2.1 25 i = ((stp 32773 g w t f rows L i).length : Int) := by rw [c4.1.2.2.1 25 i (by omega), uA_s, hl3]
      rw [e, hl4, h425]
      refine ih (i + 1) _ (by omega) (c3'.tr (c4.cq.tr (cq.uA (Or.inr rfl)))) (w4.uA (by omega)) fun i2 hi2 => ?_
      by_cases h9 : i2 = i
      · subst h9
        refine ⟨?_, ?_⟩
        · rw [uA_n _ _ (by omega)]; exact h425
        · rw [uA_s]; rfl
      · have d9 := d3 i2 (by omega)
        refine ⟨?_, ?_⟩
        · rw [uA_n _ _ (by omega), c4.1.2.2.1 25 i2 (by omega), uA_n _ _ (by omega)]; exact d9.1
        · rw [uA_n _ _ (by omega), c4.1.2.2.1 26 i2 (by omega), uA_n _ _ (by omega)]; exact d9.2
  exact loop m 0 h (Nat.zero_add _) cq.rf cw fun i2 hi2 => by omega
theorem m_packStrips_16 {rows : Int} {m : Nat} (hS : h.1 = fx_S0 a pp dd) (q : pd pp dd) (fm : fxM h) (c : cP h pp g w t f) (hs : sOK 5 g) (hr : rOK t rows m) (cw : cW h (L, [])) (hL : L.length = 8) (hB : isB L) (k : ∀ h2, cq h h2 → cW h2 (stp 5 g w t f rows L m, []) → (∀ i : Nat, i < m → h2.2.2.1 25 i = ((stp 5 g w t f rows L i).length : Int) ∧ h2.2.2.1 26 i = ((stp 5 g w t f rows L (i + 1)).length : Int) - (stp 5 g w t f rows L i).length) → Q none h2) : fx_Mt l M_FP_packStrips (0, 0) [.ref 0, .ref 16, .int (zI rows), .int (zI (m : Nat))] h Q := by
  have hp := c.2.2.2.2.2.2.2
  have ht4 : t ≤ 24 := hp.2.2.2.2.1
  have hrl := hr.le
  have hr1 := hr.1
  have hr2 := hr.2.1
  refine e_FP_packStrips_16 hS (pA hS q) (pB hS q) (dA hS q) (dB hS q) ?_
  have loop : ∀ (j i : Nat) (h3 : fx_H), i + j = m → cq h h3 → cW h3 (stp 5 g w t f rows L i, []) → (∀ i2 : Nat, i2 < i → h3.2.2.1 25 i2 = ((stp 5 g w t f rows L i2).length : Int) ∧ h3.2.2.1 26 i2 = ((stp 5 g w t f rows L (i2 + 1)).length : Int) - (stp 5 g w t f rows L i2).length) →
      fx_V l M_FP_packStrips (0, 0) Q 0 0 3 [some (.ref 0), some (.ref 16), some (.int (zI rows)), some (.int (zI (m : Nat))), some (.int (zI (i : Nat)))] [] h3 := by
    intro j
    induction j with
    | zero =>
      intro i h3 hi c3 w3 d3
      have hS3 := c3.1.1.trans hS
      have him : i = m := by omega
      rw [him] at w3 d3 ⊢
      exact w_FP_packStrips_3_16 hS3 (pA hS3 q) (pB hS3 q) (dA hS3 q) (dB hS3 q) ⟨by omega, by omega, fun _ => k h3 c3 w3 d3, fun z => by omega⟩
    | succ j ih =>
      intro i h3 hi c3 w3 d3
      have hS3 := c3.1.1.trans hS
      have hn := nst_R hr (show i < m by omega)
      have hlt := hr.lt (show i < m by omega)
      have hst := stp_R hp hs hr hL hB i (by omega)
      have hi0 : 0 ≤ (i : Int) * rows := Int.mul_nonneg (by omega) (by omega)
      have e1 : ((i : Int) + 1) * rows = i * rows + rows := by rw [Int.add_mul, Int.one_mul]
      have hst2 : ((stp 5 g w t f rows L i).length : Int) ≤ 8 + 68 * (i * rows) := by have := hst.2.2; rw [if_pos hlt] at this; exact this
      have hl3 := w3.len
      refine w_FP_packStrips_3_16 hS3 (pA hS3 q) (pB hS3 q) (dA hS3 q) (dB hS3 q) ⟨by omega, by omega, fun z => by omega, fun _ => ⟨fun z => by omega, fun _ => ⟨by omega, by omega, ?_⟩⟩⟩
      rw [(c.cq c3).2.2.2.2.2.1]
      refine ⟨by omega, by omega, ?_⟩
      rw [← hn.2.2, Int.toNat_natCast]
      have c3' : cq h (fx_uA h3 25 i (h3.2.1 1 1)) := c3.tr (cq.uA (Or.inl rfl))
      refine pk_16 (h := fx_uA h3 25 i (h3.2.1 1 1)) hS3 (fm.cq c3') (c.cq c3') (w3.uA (by omega)) hst.1 hs hi0 hn.1 hn.2.1 (by omega) fun h4 c4 w4 => ⟨rfl, c4.1.1, by omega, by omega, by omega, by omega, ?_⟩
      have e : ((i : Nat) : Int) + 1 = ((i + 1 : Nat) : Int) := by omega
      have hl4 := w4.len
      have h425 : h4.2.2.1 25 i = ((stp 5 g w t f rows L i).length : Int) := by rw [c4.1.2.2.1 25 i (by omega), uA_s, hl3]
      rw [e, hl4, h425]
      refine ih (i + 1) _ (by omega) (c3'.tr (c4.cq.tr (cq.uA (Or.inr rfl)))) (w4.uA (by omega)) fun i2 hi2 => ?_
      by_cases h9 : i2 = i
      · subst h9
        refine ⟨?_, ?_⟩
        · rw [uA_n _ _ (by omega)]; exact h425
        · rw [uA_s]; rfl
      · have d9 := d3 i2 (by omega)
        refine ⟨?_, ?_⟩
        · rw [uA_n _ _ (by omega), c4.1.2.2.1 25 i2 (by omega), uA_n _ _ (by omega)]; exact d9.1
        · rw [uA_n _ _ (by omega), c4.1.2.2.1 26 i2 (by omega), uA_n _ _ (by omega)]; exact d9.2
  exact loop m 0 h (Nat.zero_add _) cq.rf cw fun i2 hi2 => by omega
theorem m_packStrips_23 {rows : Int} {m : Nat} (hS : h.1 = fx_S0 a pp dd) (q : pd pp dd) (fm : fxM h) (c : cP h pp g w t f) (hs : sOK 3 g) (hr : rOK t rows m) (cw : cW h (L, [])) (hL : L.length = 8) (hB : isB L) (k : ∀ h2, cq h h2 → cW h2 (stp 3 g w t f rows L m, []) → (∀ i : Nat, i < m → h2.2.2.1 25 i = ((stp 3 g w t f rows L i).length : Int) ∧ h2.2.2.1 26 i = ((stp 3 g w t f rows L (i + 1)).length : Int) - (stp 3 g w t f rows L i).length) → Q none h2) : fx_Mt l M_FP_packStrips (0, 0) [.ref 0, .ref 23, .int (zI rows), .int (zI (m : Nat))] h Q := by
  have hp := c.2.2.2.2.2.2.2
  have ht4 : t ≤ 24 := hp.2.2.2.2.1
  have hrl := hr.le
  have hr1 := hr.1
  have hr2 := hr.2.1
  refine e_FP_packStrips_23 hS (pA hS q) (pB hS q) (dA hS q) (dB hS q) ?_
  have loop : ∀ (j i : Nat) (h3 : fx_H), i + j = m → cq h h3 → cW h3 (stp 3 g w t f rows L i, []) → (∀ i2 : Nat, i2 < i → h3.2.2.1 25 i2 = ((stp 3 g w t f rows L i2).length : Int) ∧ h3.2.2.1 26 i2 = ((stp 3 g w t f rows L (i2 + 1)).length : Int) - (stp 3 g w t f rows L i2).length) →
      fx_V l M_FP_packStrips (0, 0) Q 0 0 3 [some (.ref 0), some (.ref 23), some (.int (zI rows)), some (.int (zI (m : Nat))), some (.int (zI (i : Nat)))] [] h3 := by
    intro j
    induction j with
    | zero =>
      intro i h3 hi c3 w3 d3
      have hS3 := c3.1.1.trans hS
      have him : i = m := by omega
      rw [him] at w3 d3 ⊢
      exact w_FP_packStrips_3_23 hS3 (pA hS3 q) (pB hS3 q) (dA hS3 q) (dB hS3 q) ⟨by omega, by omega, fun _ => k h3 c3 w3 d3, fun z => by omega⟩
    | succ j ih =>
      intro i h3 hi c3 w3 d3
      have hS3 := c3.1.1.trans hS
      have hn := nst_R hr (show i < m by omega)
      have hlt := hr.lt (show i < m by omega)
      have hst := stp_R hp hs hr hL hB i (by omega)
      have hi0 : 0 ≤ (i : Int) * rows := Int.mul_nonneg (by omega) (by omega)
      have e1 : ((i : Int) + 1) * rows = i * rows + rows := by rw [Int.add_mul, Int.one_mul]
      have hst2 : ((stp 3 g w t f rows L i).length : Int) ≤ 8 + 68 * (i * rows) := by have := hst.2.2; rw [if_pos hlt] at this; exact this
      have hl3 := w3.len
      refine w_FP_packStrips_3_23 hS3 (pA hS3 q) (pB hS3 q) (dA hS3 q) (dB hS3 q) ⟨by omega, by omega, fun z => by omega, fun _ => ⟨fun z => by omega, fun _ => ⟨by omega, by omega, ?_⟩⟩⟩
      rw [(c.cq c3).2.2.2.2.2.1]
      refine ⟨by omega, by omega, ?_⟩
      rw [← hn.2.2, Int.toNat_natCast]
      have c3' : cq h (fx_uA h3 25 i (h3.2.1 1 1)) := c3.tr (cq.uA (Or.inl rfl))
      refine pk_23 (h := fx_uA h3 25 i (h3.2.1 1 1)) hS3 (fm.cq c3') (c.cq c3') (w3.uA (by omega)) hst.1 hs hi0 hn.1 hn.2.1 (by omega) fun h4 c4 w4 => ⟨rfl, c4.1.1, by omega, by omega, by omega, by omega, ?_⟩
      have e : ((i : Nat) : Int) + 1 = ((i + 1 : Nat) : Int) := by omega
      have hl4 := w4.len
      have h425 : h4.2.2.1 25 i = ((stp 3 g w t f rows L i).length : Int) := by rw [c4.1.2.2.1 25 i (by omega), uA_s, hl3]
      rw [e, hl4, h425]
      refine ih (i + 1) _ (by omega) (c3'.tr (c4.cq.tr (cq.uA (Or.inr rfl)))) (w4.uA (by omega)) fun i2 hi2 => ?_
      by_cases h9 : i2 = i
      · subst h9
        refine ⟨?_, ?_⟩
        · rw [uA_n _ _ (by omega)]; exact h425
        · rw [uA_s]; rfl
      · have d9 := d3 i2 (by omega)
        refine ⟨?_, ?_⟩
        · rw [uA_n _ _ (by omega), c4.1.2.2.1 25 i2 (by omega), uA_n _ _ (by omega)]; exact d9.1
        · rw [uA_n _ _ (by omega), c4.1.2.2.1 26 i2 (by omega), uA_n _ _ (by omega)]; exact d9.2
  exact loop m 0 h (Nat.zero_add _) cq.rf cw fun i2 hi2 => by omega
theorem m_packStrips_24 {rows : Int} {m : Nat} (hS : h.1 = fx_S0 a pp dd) (q : pd pp dd) (fm : fxM h) (c : cP h pp g w t f) (hs : sOK 4 g) (hr : rOK t rows m) (cw : cW h (L, [])) (hL : L.length = 8) (hB : isB L) (k : ∀ h2, cq h h2 → cW h2 (stp 4 g w t f rows L m, []) → (∀ i : Nat, i < m → h2.2.2.1 25 i = ((stp 4 g w t f rows L i).length : Int) ∧ h2.2.2.1 26 i = ((stp 4 g w t f rows L (i + 1)).length : Int) - (stp 4 g w t f rows L i).length) → Q none h2) : fx_Mt l M_FP_packStrips (0, 0) [.ref 0, .ref 24, .int (zI rows), .int (zI (m : Nat))] h Q := by
  have hp := c.2.2.2.2.2.2.2
  have ht4 : t ≤ 24 := hp.2.2.2.2.1
  have hrl := hr.le
  have hr1 := hr.1
  have hr2 := hr.2.1
  refine e_FP_packStrips_24 hS (pA hS q) (pB hS q) (dA hS q) (dB hS q) ?_
  have loop : ∀ (j i : Nat) (h3 : fx_H), i + j = m → cq h h3 → cW h3 (stp 4 g w t f rows L i, []) → (∀ i2 : Nat, i2 < i → h3.2.2.1 25 i2 = ((stp 4 g w t f rows L i2).length : Int) ∧ h3.2.2.1 26 i2 = ((stp 4 g w t f rows L (i2 + 1)).length : Int) - (stp 4 g w t f rows L i2).length) →
      fx_V l M_FP_packStrips (0, 0) Q 0 0 3 [some (.ref 0), some (.ref 24), some (.int (zI rows)), some (.int (zI (m : Nat))), some (.int (zI (i : Nat)))] [] h3 := by
    intro j
    induction j with
    | zero =>
      intro i h3 hi c3 w3 d3
      have hS3 := c3.1.1.trans hS
      have him : i = m := by omega
      rw [him] at w3 d3 ⊢
      exact w_FP_packStrips_3_24 hS3 (pA hS3 q) (pB hS3 q) (dA hS3 q) (dB hS3 q) ⟨by omega, by omega, fun _ => k h3 c3 w3 d3, fun z => by omega⟩
    | succ j ih =>
      intro i h3 hi c3 w3 d3
      have hS3 := c3.1.1.trans hS
      have hn := nst_R hr (show i < m by omega)
      have hlt := hr.lt (show i < m by omega)
      have hst := stp_R hp hs hr hL hB i (by omega)
      have hi0 : 0 ≤ (i : Int) * rows := Int.mul_nonneg (by omega) (by omega)
      have e1 : ((i : Int) + 1) * rows = i * rows + rows := by rw [Int.add_mul, Int.one_mul]
      have hst2 : ((stp 4 g w t f rows L i).length : Int) ≤ 8 + 68 * (i * rows) := by have := hst.2.2; rw [if_pos hlt] at this; exact this
      have hl3 := w3.len
      refine w_FP_packStrips_3_24 hS3 (pA hS3 q) (pB hS3 q) (dA hS3 q) (dB hS3 q) ⟨by omega, by omega, fun z => by omega, fun _ => ⟨fun z => by omega, fun _ => ⟨by omega, by omega, ?_⟩⟩⟩
      rw [(c.cq c3).2.2.2.2.2.1]
      refine ⟨by omega, by omega, ?_⟩
      rw [← hn.2.2, Int.toNat_natCast]
      have c3' : cq h (fx_uA h3 25 i (h3.2.1 1 1)) := c3.tr (cq.uA (Or.inl rfl))
      refine pk_24 (h := fx_uA h3 25 i (h3.2.1 1 1)) hS3 (fm.cq c3') (c.cq c3') (w3.uA (by omega)) hst.1 hs hi0 hn.1 hn.2.1 (by omega) fun h4 c4 w4 => ⟨rfl, c4.1.1, by omega, by omega, by omega, by omega, ?_⟩
      have e : ((i : Nat) : Int) + 1 = ((i + 1 : Nat) : Int) := by omega
      have hl4 := w4.len
      have h425 : h4.2.2.1 25 i = ((stp 4 g w t f rows L i).length : Int) := by rw [c4.1.2.2.1 25 i (by omega), uA_s, hl3]
      rw [e, hl4, h425]
      refine ih (i + 1) _ (by omega) (c3'.tr (c4.cq.tr (cq.uA (Or.inr rfl)))) (w4.uA (by omega)) fun i2 hi2 => ?_
      by_cases h9 : i2 = i
      · subst h9
        refine ⟨?_, ?_⟩
        · rw [uA_n _ _ (by omega)]; exact h425
        · rw [uA_s]; rfl
      · have d9 := d3 i2 (by omega)
        refine ⟨?_, ?_⟩
        · rw [uA_n _ _ (by omega), c4.1.2.2.1 25 i2 (by omega), uA_n _ _ (by omega)]; exact d9.1
        · rw [uA_n _ _ (by omega), c4.1.2.2.1 26 i2 (by omega), uA_n _ _ (by omega)]; exact d9.2
  exact loop m 0 h (Nat.zero_add _) cq.rf cw fun i2 hi2 => by omega
theorem m_isFax {s : Int} (hS : h.1 = fx_S0 a pp dd) (hs : zRL s) (k1 : s = 3 ∨ s = 4 → Q (some (.int (zI 1))) h) (k0 : ¬ (s = 3 ∨ s = 4) → Q (some (.int (zI 0))) h) : fx_Mt l M_FP_isFax (0, 0) [.long (zL s)] h Q := by
  refine e_FP_isFax hS ⟨hs, fun z => k1 (Or.inl (zC_0.mp z)), fun z => ⟨fun z2 => k0 ?_, fun z2 => k1 (Or.inr (zC_0.mp z2))⟩⟩
  rintro (z3 | z4)
  · exact z (zC_0.mpr z3)
  · exact z2 (zC_0.mpr z4)
theorem m_isScheme {s : Int} (hS : h.1 = fx_S0 a pp dd) (hs : zRL s) (k1 : (s = 1 ∨ s = 32773 ∨ s = 5 ∨ s = 3 ∨ s = 4) → Q (some (.int (zI 1))) h) (k0 : ¬ (s = 1 ∨ s = 32773 ∨ s = 5 ∨ s = 3 ∨ s = 4) → Q (some (.int (zI 0))) h) : fx_Mt l M_FP_isScheme (0, 0) [.long (zL s)] h Q := by
  refine e_FP_isScheme hS ⟨hs, fun z => k1 (by have := zC_0.mp z; omega), fun z => ⟨fun z2 => k1 (by have := zC_0.mp z2; omega), fun z2 => ⟨fun z3 => k1 (by have := zC_0.mp z3; omega), fun z3 => ?_⟩⟩⟩
  refine m_isFax hS hs (fun z4 => ⟨1, rfl, rfl, by omega, fun z5 => by omega, fun _ => k1 (by omega)⟩) (fun z4 => ⟨0, rfl, rfl, by omega, fun _ => k0 ?_, fun z5 => absurd rfl z5⟩)
  intro z9
  have n1 : ¬ s = 1 := fun e => z (zC_0.mpr e)
  have n2 : ¬ s = 32773 := fun e => z2 (zC_0.mpr e)
  have n3 : ¬ s = 5 := fun e => z3 (zC_0.mpr e)
  omega
/-- writing changes only this -/
def cF (h h2 : fx_H) : Prop := sm (fun j => j = 0 ∨ j = 1 ∨ j = 2 ∨ (14 ≤ j ∧ j ≤ 22) ∨ j = 25 ∨ j = 26) h h2
theorem m_FPwrite {s b rows : Int} {m : Nat} (hS : h.1 = fx_S0 a pp dd) (q : pd pp dd) (fm : fxM h) (c : cP h pp g w t f) (hs : sOK s g) (hb : b = 0 ∨ b = 1) (hr : rOK t rows m) (k : ∀ h2, cF h h2 → h2.2.1 1 2 = b → cW h2 (wfile b s g w t f rows m, []) → (wfile b s g w t f rows m).length ≤ 2000 → h2.2.1 0 12 = 1 → h2.2.1 0 13 = s → h2.2.1 0 14 = b → h2.2.1 0 15 = rows → h2.2.1 0 16 = m → Q (some (.int (zI (wfile b s g w t f rows m).length))) h2) : fx_Mt l M_FP_write (0, 0) [.ref 0, .int (zI s), .int (zI b), .int (zI rows)] h Q := by
  have hp := c.2.2.2.2.2.2.2
  have ht4 : t ≤ 24 := hp.2.2.2.2.1
  have hrl := hr.le
  have hr1 := hr.1
  have hr2 := hr.2.1
  have hs5 := hs.1
  have hd : (t + rows - 1) / rows = (m : Int) := hr.2.2.symm
  have rest : fx_Mt l M_BY_start (0, 0) [.ref 1, .int (zI b)] h (fun v h16 => v = none ∧ h16.1 = h.1 ∧ fx_Mt l M_FP_packingOf (0, 0) [.ref 0, .int (zI s)] h16 (fun v h18 => ∃ q20 : Nat, v = some (.ref q20) ∧ (q20 = 13 ∨ q20 = 14 ∨ q20 = 16 ∨ q20 = 23 ∨ q20 = 24) ∧ h18.1 = h16.1 ∧ fx_Mt l M_FP_packStrips (0, 0) [.ref 0, .ref q20, .int (zI rows), .int (zI (m : Nat))] h18 (fun v h21 => v = none ∧ h21.1 = h18.1 ∧ fx_Mt l M_FP_writeTags (0, 0) [.ref 0, .int (zI s), .int (zI rows), .int (zI (m : Nat))] h21 (fun v h23 => v = none ∧ h23.1 = h21.1 ∧ fx_Mt l M_FP_know (0, 0) [.ref 0, .int (zI s), .int (zI b), .int (zI rows), .int (zI (m : Nat))] h23 (fun v h25 => v = none ∧ h25.1 = h23.1 ∧ Q (some (.int (zI (h25.2.1 1 1)))) h25))))) := by
    refine m_start hS hb fun h1 s1 b1 w1 => ⟨rfl, s1.1, ?_⟩
    have hS1 := s1.1.trans hS
    have cp1 : cP h1 pp g w t f := c.sm s1 (by have := c.2.2.1; omega) (by have := c.2.2.1; omega)
    have fm1 : fxM h1 := ⟨by rw [s1.2.1 23 0 (by omega)]; exact fm.1, by rw [s1.2.1 24 0 (by omega)]; exact fm.2⟩
    have tail : ∀ h2, cq h1 h2 → cW h2 (stp s g w t f rows (whead b) m, []) → (∀ i : Nat, i < m → h2.2.2.1 25 i = ((stp s g w t f rows (whead b) i).length : Int) ∧ h2.2.2.1 26 i = ((stp s g w t f rows (whead b) (i + 1)).length : Int) - (stp s g w t f rows (whead b) i).length) →
        fx_Mt l M_FP_writeTags (0, 0) [.ref 0, .int (zI s), .int (zI rows), .int (zI (m : Nat))] h2 (fun v h23 => v = none ∧ h23.1 = h2.1 ∧ fx_Mt l M_FP_know (0, 0) [.ref 0, .int (zI s), .int (zI b), .int (zI rows), .int (zI (m : Nat))] h23 (fun v h25 => v = none ∧ h25.1 = h23.1 ∧ Q (some (.int (zI (h25.2.1 1 1)))) h25)) := by
      intro h2 c2 w2 d2
      have hS2 := c2.1.1.trans hS1
      have hstm := stp_R (L := whead b) hp hs hr (whead_len b) (whead_isB b) m (Nat.le_refl _)
      have hge := hr.ge
      have hlm : ((stp s g w t f rows (whead b) m).length : Int) ≤ 8 + 68 * t := by have := hstm.2.2; split at this <;> omega
      have hla : ∀ i : Nat, i ≤ m → ((stp s g w t f rows (whead b) i).length : Int) ≤ 8 + 68 * 24 := fun i hi => by
        have := (stp_R (L := whead b) hp hs hr (whead_len b) (whead_isB b) i hi).2.2
        split at this <;> omega
      refine m_writeTags (pl := fun i => ((stp s g w t f rows (whead b) i).length : Int)) (sz := fun i => ((stp s g w t f rows (whead b) (i + 1)).length : Int) - (stp s g w t f rows (whead b) i).length) hS2 q (cp1.cq c2) w2 (c2.2.trans b1) hb (by omega) (by omega) hrl.1 (by omega) (fun i hi => ⟨(d2 i hi).1, ?_⟩) (fun i hi => ⟨(d2 i hi).2, ?_⟩) hstm.2.1 (by omega) fun h3 c3 w3 => ⟨rfl, c3.1.1, ?_⟩
      · have := hla i (by omega); show zR ((stp s g w t f rows (whead b) i).length : Int); omega
      · have := hla i (by omega); have := hla (i + 1) (by omega); show zR (((stp s g w t f rows (whead b) (i + 1)).length : Int) - (stp s g w t f rows (whead b) i).length); omega
      · have hS3 := c3.1.1.trans hS2
        have w3' : cW h3 (wfile b s g w t f rows m, []) := w3
        have hlen : (wfile b s g w t f rows m).length ≤ 2000 := by
          unfold wfile
          simp only [List.length_append, patJ_len]
          have h9 := weven_R (wbes b (stp s g w t f rows (whead b) m) (fun i => ((stp s g w t f rows (whead b) i).length : Int)) (fun i => ((stp s g w t f rows (whead b) (i + 1)).length : Int) - (stp s g w t f rows (whead b) i).length) m)
          have h8 : (wbes b (stp s g w t f rows (whead b) m) (fun i => ((stp s g w t f rows (whead b) i).length : Int)) (fun i => ((stp s g w t f rows (whead b) (i + 1)).length : Int) - (stp s g w t f rows (whead b) i).length) m).length ≤ (stp s g w t f rows (whead b) m).length + 8 * m := by
            unfold wbes; split
            · omega
            · simp [longs_len]; omega
          have h7 := wtags_len b s g w t rows m (if m = 1 then ((stp s g w t f rows (whead b) 0).length : Int) else (stp s g w t f rows (whead b) m).length) (if m = 1 then ((stp s g w t f rows (whead b) (0 + 1)).length : Int) - (stp s g w t f rows (whead b) 0).length else (stp s g w t f rows (whead b) m).length + 4 * m)
          omega
        refine e_FP_know hS3 (pA hS3 q) (pB hS3 q) (dA hS3 q) (dB hS3 q) ⟨hb, rfl, rfl, ?_⟩
        have w9 : cW (fx_uF (fx_uF (fx_uF (fx_uF (fx_uF h3 0 12 1) 0 13 s) 0 14 b) 0 15 rows) 0 16 m) (wfile b s g w t f rows m, []) := ((((w3'.uF (by omega)).uF (by omega)).uF (by omega)).uF (by omega)).uF (by omega)
        rw [w9.len]
        refine k _ ?_ ?_ w9 hlen ?_ ?_ ?_ ?_ ?_
        · exact (((s1.mono fun q z => by omega).tr (c2.1.mono fun q z => by omega)).tr (c3.1.mono fun q z => by omega)).tr (((((sm.uF (Or.inl rfl)).tr (sm.uF (Or.inl rfl))).tr (sm.uF (Or.inl rfl))).tr (sm.uF (Or.inl rfl))).tr (sm.uF (Or.inl rfl)))
        · rw [uF_n _ _ (by omega), uF_n _ _ (by omega), uF_n _ _ (by omega), uF_n _ _ (by omega), uF_n _ _ (by omega)]; exact c3.2.trans (c2.2.trans b1)
        · rw [uF_n _ _ (by omega), uF_n _ _ (by omega), uF_n _ _ (by omega), uF_n _ _ (by omega), uF_s]
        · rw [uF_n _ _ (by omega), uF_n _ _ (by omega), uF_n _ _ (by omega), uF_s]
        · rw [uF_n _ _ (by omega), uF_n _ _ (by omega), uF_s]
        · rw [uF_n _ _ (by omega), uF_s]
        · rw [uF_s]
    refine e_FP_packingOf hS1 (pA hS1 q) (pB hS1 q) (dA hS1 q) (dB hS1 q) ⟨by omega, fun z => ⟨23, rfl, by omega, rfl, ?_⟩, fun z => ⟨24, rfl, by omega, rfl, ?_⟩, fun z => ⟨16, rfl, by omega, rfl, ?_⟩, fun z => ⟨14, rfl, by omega, rfl, ?_⟩, fun z1 z2 z3 z4 => ⟨13, rfl, by omega, rfl, ?_⟩⟩
    · subst z; exact m_packStrips_23 hS1 q fm1 cp1 hs hr w1 (whead_len b) (whead_isB b) fun h2 c2 w2 d2 => ⟨rfl, c2.1.1, tail h2 c2 w2 d2⟩
    · subst z; exact m_packStrips_24 hS1 q fm1 cp1 hs hr w1 (whead_len b) (whead_isB b) fun h2 c2 w2 d2 => ⟨rfl, c2.1.1, tail h2 c2 w2 d2⟩
    · subst z; exact m_packStrips_16 hS1 q fm1 cp1 hs hr w1 (whead_len b) (whead_isB b) fun h2 c2 w2 d2 => ⟨rfl, c2.1.1, tail h2 c2 w2 d2⟩
    · subst z; exact m_packStrips_14 hS1 q fm1 cp1 hs hr w1 (whead_len b) (whead_isB b) fun h2 c2 w2 d2 => ⟨rfl, c2.1.1, tail h2 c2 w2 d2⟩
    · have z : s = 1 := by omega
      subst z; exact m_packStrips_13 hS1 q fm1 cp1 hs hr w1 (whead_len b) (whead_isB b) fun h2 c2 w2 d2 => ⟨rfl, c2.1.1, tail h2 c2 w2 d2⟩
  have ct := c.2.2.2.2.2.1
  have cg := c.2.2.2.1
  have hg := hp.1
  refine e_FP_write hS (pA hS q) (pB hS q) (dA hS q) (dB hS q) ⟨by omega, m_isScheme hS (by omega) (fun _ => ⟨1, rfl, rfl, by omega, fun z => by omega, fun _ => ⟨by omega, fun z => by omega, fun _ => ?_⟩⟩) (fun z => absurd hs5 z)⟩
  rw [ct, cg]
  refine ⟨by omega, fun _ => ⟨by omega, fun z => ?_, fun z => ?_⟩, fun z => absurd hr2 z⟩
  · refine e_FP_stripsOf hS ⟨by omega, fun _ => ⟨by omega, by omega, by omega, ?_⟩, fun z => absurd hr1 z⟩
    rw [hd]
    exact ⟨_, rfl, rfl, rest⟩
  · refine m_isFax hS (by omega) (fun z4 => absurd (hs.2 z4) z) (fun z4 => ⟨0, rfl, rfl, by omega, fun _ => ?_, fun z5 => absurd rfl z5⟩)
    rw [ct]
    refine e_FP_stripsOf hS ⟨by omega, fun _ => ⟨by omega, by omega, by omega, ?_⟩, fun z => absurd hr1 z⟩
    rw [hd]
    exact ⟨_, rfl, rfl, rest⟩
end FQ
