/-! the reference writes -/
theorem wnum_00 (b : Int) : wnum b 0 2 = [0] ++ [0] := by simp [wnum, wnb, List.range']
section MX
variable {l : Launch} {Q : Option Value → fx_H → Prop} {h : fx_H} {a : Nat → Nat} {pp dd : Nat} {g w t : Int} {f : Int → Int → Int} {b : Int}
theorem m_outStrip {x sc : Int} {n : Nat} {L : List Int} (hS : h.1 = fx_S0 a pp dd) (c : mP h g w t f) (mc : mC h) (hsc : h.2.1 31 12 = sc) (hs : sOK sc g) (mw : mW h (L, [])) (hB : isB L) (hx : 0 ≤ x) (hn1 : 1 ≤ n) (hn : x + n ≤ t) (cap : L.length + 68 * n ≤ 1800) (k : ∀ h2, mo xA xF h h2 → mW h2 (wst sc g w f x n L, []) → Q none h2) : fx_Mt l M_MO_outStrip (0, 0) [.ref 31, .int (zI x), .int (zI (n : Nat))] h Q := by
  have hp := c.2.2.2.2
  have hrb := hp.rb
  have hst := hp.strip (n := n) (by omega)
  have h20 : n * (rbn g w).toNat ≤ n * 20 := Nat.mul_le_mul_left _ (by omega)
  have h40 : n * (2 * (rbn g w).toNat) ≤ n * 40 := Nat.mul_le_mul_left _ (by omega)
  have h3 : 1 ≤ n * (rbn g w).toNat := Nat.mul_pos (by omega) (by omega)
  have htb : tb (L, []) = 8 * L.length := by unfold tb; simp
  have hs5 := hs.1
  refine e_MO_outStrip hS (m_gather hS c hx hn hst fun h1 c1 s1 => ⟨rfl, c1.S, ?_⟩)
  have hS1 := c1.S.trans hS
  have w1 : mW h1 (L, []) := mw.mo c1 (by omega) (by omega) (by omega) (by omega)
  have cm1 := c.mo c1 (by omega) ⟨by omega, by omega, by omega⟩
  have sc1 : h1.2.1 31 12 = sc := (c1.2 12 (by omega)).trans hsc
  have x1 : mo xA xF h h1 := c1.mono (fun j z => by omega) (fun j z => by omega)
  unfold wst at k
  rw [sc1]
  refine ⟨by omega, fun z => ?_, fun z => ?_, fun z => ?_, fun z1 z2 z3 => ?_⟩
  · rw [if_pos z] at k
    exact v_outNone (sb_isB hp n x) hS1 s1 w1 (by rw [sb_len]; exact hst) (by rw [sb_len]; omega) fun h2 c2 w2 => k h2 (x1.tr c2.x) w2
  · rw [if_neg (by omega), if_neg (by omega), if_pos z] at k
    refine m_outTable (N := n * (rbn g w).toNat) (B := fun i => (sb g w f x n).getD i 0) hS1 (by rw [s1.1, sb_len]) h3 hst (fun i hi => s1.2 i (by rw [sb_len]; exact hi)) (fun i => (sb_isB hp n x).get i) w1 (isW_nil hB) (by omega) fun h2 c2 w2 => ⟨rfl, c2.S, k h2 (x1.tr (c2.mono (fun j z => by omega) (fun j z => by omega))) ?_⟩
    rw [pair_nil (tabW_R h3 (isW_nil hB)).2.1] at w2
    exact w2
  · rw [if_neg (by omega), if_pos z] at k
    exact m_outRuns hS1 cm1 s1 w1 hst (by omega) fun h2 c2 w2 => ⟨rfl, c2.S, k h2 (x1.tr c2.x) w2⟩
  · rw [if_neg (by omega), if_neg (by omega), if_neg (by omega)] at k
    have hg := hs.2 (by omega)
    refine m_outFax hS1 cm1 hg (mc.mo c1 (by omega)) sc1 (by omega) w1 (isW_nil hB) hx hn (by omega) fun h2 c2 w2 => ⟨rfl, c2.S, k h2 (x1.tr c2) ?_⟩
    rw [pair_nil (faxW_R (mk := if sc = 3 then 1 else 0) (top := x) hp hg n x _ (isW_nil hB)).2.1] at w2
    exact w2
theorem m_onum {L : List Int} {u : Int} (n : Nat) (hS : h.1 = fx_S0 a pp dd) (mw : mW h (L, [])) (hb : h.2.1 31 11 = b) (hm : b = 0 ∨ b = 1) (hu : zR u) (hn : n ≤ 4) (hL : L.length + n ≤ 2000) (k : ∀ h2, mo oA oF h h2 → mW h2 (L ++ wnum b u n, []) → Q none h2) : fx_Mt l M_MO_outNumber (0, 0) [.ref 31, .int (zI u), .int (zI (n : Nat))] h Q := by
  subst hb; exact m_outNumber hS mw hm hu hn hL k
theorem m_outTagS {L : List Int} {n u : Int} (hS : h.1 = fx_S0 a pp dd) (mw : mW h (L, [])) (hb : h.2.1 31 11 = b) (hm : b = 0 ∨ b = 1) (hn : zR n) (hu : zR u) (hL : L.length + 12 ≤ 2000) (k : ∀ h2, mo oA oF h h2 → mW h2 (L ++ stg b n u, []) → Q none h2) : fx_Mt l M_MO_outTag (0, 0) [.ref 31, .int (zI n), .int (zI 0), .int (zI 1), .int (zI u)] h Q := by
  refine e_MO_outTag hS ?_
  refine m_onum 2 hS mw hb hm hn (by omega) (by omega) fun h4 c4 w4 => ⟨rfl, c4.S, by omega, fun _ => ?_, fun z => absurd rfl z⟩
  refine m_onum 2 (c4.S.trans hS) w4 ((c4.2 11 (by omega)).trans hb) hm (by omega) (by omega) (by simp [wnum_len]; omega) fun h5 c5 w5 => ⟨rfl, c5.S, ?_⟩
  have c45 := c4.tr c5
  refine m_onum 4 (c45.S.trans hS) w5 ((c45.2 11 (by omega)).trans hb) hm (by omega) (by omega) (by simp [wnum_len]; omega) fun h6 c6 w6 => ⟨rfl, c6.S, fun _ => ?_, fun z => absurd rfl z⟩
  have c46 := c45.tr c6
  refine m_onum 2 (c46.S.trans hS) w6 ((c46.2 11 (by omega)).trans hb) hm hu (by omega) (by simp [wnum_len]; omega) fun h7 c7 w7 => ⟨rfl, c7.S, fun z => absurd rfl z, fun _ => ?_⟩
  have c47 := c46.tr c7
  refine m_out (c47.S.trans hS) w7 (by simp [wnum_len]; omega) fun h8 c8 w8 => ⟨rfl, c8.S, ?_⟩
  have c48 := c47.tr c8
  refine m_out (c48.S.trans hS) w8 (by simp [wnum_len]; omega) fun h9 c9 w9 => ⟨rfl, c9.S, k h9 (c48.tr c9) ?_⟩
  unfold stg
  rw [wnum_00]
  simp only [List.append_assoc] at w9 ⊢
  exact w9
theorem m_outTagL {L : List Int} {n c u : Int} (hS : h.1 = fx_S0 a pp dd) (mw : mW h (L, [])) (hb : h.2.1 31 11 = b) (hm : b = 0 ∨ b = 1) (hn : zR n) (hc : zR c) (hu : zR u) (hL : L.length + 12 ≤ 2000) (k : ∀ h2, mo oA oF h h2 → mW h2 (L ++ ltg b n c u, []) → Q none h2) : fx_Mt l M_MO_outTag (0, 0) [.ref 31, .int (zI n), .int (zI 1), .int (zI c), .int (zI u)] h Q := by
  refine e_MO_outTag hS ?_
  refine m_onum 2 hS mw hb hm hn (by omega) (by omega) fun h4 c4 w4 => ⟨rfl, c4.S, by omega, fun z => by omega, fun _ => ?_⟩
  refine m_onum 2 (c4.S.trans hS) w4 ((c4.2 11 (by omega)).trans hb) hm (by omega) (by omega) (by simp [wnum_len]; omega) fun h5 c5 w5 => ⟨rfl, c5.S, ?_⟩
  have c45 := c4.tr c5
  refine m_onum 4 (c45.S.trans hS) w5 ((c45.2 11 (by omega)).trans hb) hm hc (by omega) (by simp [wnum_len]; omega) fun h6 c6 w6 => ⟨rfl, c6.S, fun z => by omega, fun _ => ?_⟩
  have c46 := c45.tr c6
  refine m_onum 4 (c46.S.trans hS) w6 ((c46.2 11 (by omega)).trans hb) hm hu (by omega) (by simp [wnum_len]; omega) fun h7 c7 w7 => ⟨rfl, c7.S, fun _ => k h7 (c46.tr c7) ?_, fun z => by omega⟩
  unfold ltg
  simp only [List.append_assoc] at w7 ⊢
  exact w7
theorem m_outTags {L : List Int} {sc rows x2 : Int} {m : Nat} {p0 s0 : Int} (hS : h.1 = fx_S0 a pp dd) (c : mP h g w t f) (mw : mW h (L, [])) (hb : h.2.1 31 11 = b) (hm : b = 0 ∨ b = 1) (hsc : h.2.1 31 12 = sc) (hscz : zR sc) (hr : h.2.1 31 13 = rows) (hrz : zR rows) (hm4 : m ≤ 24) (hp0 : h.2.2.1 41 0 = p0) (hs0 : h.2.2.1 42 0 = s0) (hpz : zR p0) (hsz : zR s0) (hx2 : 0 ≤ x2 ∧ x2 < 100000) (hL : L.length + 114 ≤ 2000) (k : ∀ h2, mo oA oF h h2 → mW h2 (L ++ wtags b sc g w t rows m (if m = 1 then p0 else x2) (if m = 1 then s0 else x2 + 4 * m), []) → Q none h2) : fx_Mt l M_MO_outTags (0, 0) [.ref 31, .int (zI (m : Nat)), .int (zI x2)] h Q := by
  obtain ⟨g1, g2, g3, -, hpk⟩ := c
  have hw1 := hpk.2.1
  have hw2 := hpk.2.2.1
  have ht1 := hpk.2.2.2.1
  have ht2 := hpk.2.2.2.2.1
  have hg := hpk.1
  have hPz : zR (if m = 1 then p0 else x2) := by split; exact hpz; omega
  have hSz : zR (if m = 1 then s0 else x2 + 4 * m) := by split; exact hsz; omega
  have h16 : fx_V l M_MO_outTags (0, 0) Q 0 0 16 [some (.ref 31), some (.int (zI (m : Nat))), some (.int (zI x2))] [.int (zI (if sc = 3 then 9 else 8)), .ref 31] h := by
    refine w_MO_outTags_16 hS ?_
    refine m_onum 2 hS mw hb hm (by split <;> omega) (by omega) (by omega) fun h1 c1 w1 => ⟨rfl, c1.S, ?_⟩
    rw [(c1.2 15 (by omega)).trans g2]
    refine m_outTagS (c1.S.trans hS) w1 ((c1.2 11 (by omega)).trans hb) hm (by omega) (by omega) (by simp [wnum_len]; omega) fun h2 d2 w2 => ⟨rfl, d2.S, ?_⟩
    have c2 := c1.tr d2
    rw [(c2.2 16 (by omega)).trans g3]
    refine m_outTagS (c2.S.trans hS) w2 ((c2.2 11 (by omega)).trans hb) hm (by omega) (by omega) (by simp [wnum_len, stg_len]; omega) fun h3 d3 w3 => ⟨rfl, d3.S, ?_⟩
    have c3 := c2.tr d3
    have hS3 := c3.S.trans hS
    rw [(c3.2 14 (by omega)).trans g1]
    have h65 : fx_V l M_MO_outTags (0, 0) Q 0 0 65 [some (.ref 31), some (.int (zI (m : Nat))), some (.int (zI x2))] [.int (zI (if g = 0 then 1 else 8)), .int (zI 1), .int (zI 0), .int (zI 258), .ref 31] h3 := by
      refine w_MO_outTags_65 hS3 ?_
      refine m_outTagS hS3 w3 ((c3.2 11 (by omega)).trans hb) hm (by omega) (by split <;> omega) (by simp [wnum_len, stg_len]; omega) fun h4 d4 w4 => ⟨rfl, d4.S, ?_⟩
      have c4 := c3.tr d4
      rw [(c4.2 12 (by omega)).trans hsc]
      refine m_outTagS (c4.S.trans hS) w4 ((c4.2 11 (by omega)).trans hb) hm (by omega) hscz (by simp [wnum_len, stg_len]; omega) fun h5 d5 w5 => ⟨rfl, d5.S, ?_⟩
      have c5 := c4.tr d5
      have hS5 := c5.S.trans hS
      rw [(c5.2 14 (by omega)).trans g1]
      have h99 : fx_V l M_MO_outTags (0, 0) Q 0 0 99 [some (.ref 31), some (.int (zI (m : Nat))), some (.int (zI x2))] [.int (zI (if g = 0 then 0 else 1)), .int (zI 1), .int (zI 0), .int (zI 262), .ref 31] h5 := by
        refine w_MO_outTags_99 hS5 ?_
        refine m_outTagS hS5 w5 ((c5.2 11 (by omega)).trans hb) hm (by omega) (by split <;> omega) (by simp [wnum_len, stg_len]; omega) fun h6 d6 w6 => ⟨rfl, d6.S, ?_⟩
        have c6 := c5.tr d6
        have hS6 := c6.S.trans hS
        rw [c6.1.2.2.1 41 0 (by omega), hp0]
        have h123 : fx_V l M_MO_outTags (0, 0) Q 0 0 123 [some (.ref 31), some (.int (zI (m : Nat))), some (.int (zI x2))] [.int (zI (if m = 1 then p0 else x2)), .int (zI (m : Nat)), .int (zI 1), .int (zI 273), .ref 31] h6 := by
          refine w_MO_outTags_123 hS6 ?_
          refine m_outTagL hS6 w6 ((c6.2 11 (by omega)).trans hb) hm (by omega) (by omega) hPz (by simp [wnum_len, stg_len]; omega) fun h7 d7 w7 => ⟨rfl, d7.S, ?_⟩
          have c7 := c6.tr d7
          rw [(c7.2 13 (by omega)).trans hr]
          refine m_outTagS (c7.S.trans hS) w7 ((c7.2 11 (by omega)).trans hb) hm (by omega) hrz (by simp [wnum_len, stg_len, ltg_len]; omega) fun h8 d8 w8 => ⟨rfl, d8.S, ?_⟩
          have c8 := c7.tr d8
          have hS8 := c8.S.trans hS
          rw [c8.1.2.2.1 42 0 (by omega), hs0]
          have h164 : fx_V l M_MO_outTags (0, 0) Q 0 0 164 [some (.ref 31), none, none] [.int (zI (if m = 1 then s0 else x2 + 4 * m)), .int (zI (m : Nat)), .int (zI 1), .int (zI 279), .ref 31] h8 := by
            refine w_MO_outTags_164 hS8 ?_
            refine m_outTagL hS8 w8 ((c8.2 11 (by omega)).trans hb) hm (by omega) (by omega) hSz (by simp [wnum_len, stg_len, ltg_len]; omega) fun h9 d9 w9 => ⟨rfl, d9.S, ?_⟩
            have c9 := c8.tr d9
            have hS9 := c9.S.trans hS
            rw [(c9.2 12 (by omega)).trans hsc]
            refine ⟨hscz, fun z => ?_, fun z => ?_⟩
            · refine m_onum 4 hS9 w9 ((c9.2 11 (by omega)).trans hb) hm (by omega) (by omega) (by simp [wnum_len, stg_len, ltg_len]; omega) fun h10 d10 w10 => ⟨rfl, d10.S, k h10 (c9.tr d10) ?_⟩
              simp only [List.append_assoc] at w10
              unfold wtags
              rw [if_neg z, if_neg z, List.nil_append]
              rw [if_neg z] at w10
              exact w10
            · refine m_outTagL hS9 w9 ((c9.2 11 (by omega)).trans hb) hm (by omega) (by omega) (by omega) (by simp [wnum_len, stg_len, ltg_len]; omega) fun h10 d10 w10 => ⟨rfl, d10.S, ?_⟩
              have c10 := c9.tr d10
              have hS10 := c10.S.trans hS
              refine w_MO_outTags_185 hS10 ?_
              refine m_onum 4 hS10 w10 ((c10.2 11 (by omega)).trans hb) hm (by omega) (by omega) (by simp [wnum_len, stg_len, ltg_len]; omega) fun h11 d11 w11 => ⟨rfl, d11.S, k h11 (c10.tr d11) ?_⟩
              simp only [List.append_assoc] at w11
              unfold wtags
              rw [if_pos z, if_pos z]
              rw [if_pos z] at w11
              exact w11
          refine ⟨by omega, fun z => ?_, fun z => ?_⟩
          · rw [if_neg (by omega)] at h164; exact h164
          · rw [if_pos (by omega)] at h164; exact h164
        refine ⟨by omega, fun z => ?_, fun z => ?_⟩
        · rw [if_neg (by omega)] at h123; exact h123
        · rw [if_pos (by omega)] at h123; exact h123
      refine ⟨by omega, fun z => ?_, fun z => ?_⟩
      · rw [if_pos z] at h99; exact h99
      · rw [if_neg z] at h99; exact h99
    refine ⟨by omega, fun z => ?_, fun z => ?_⟩
    · rw [if_pos z] at h65; exact h65
    · rw [if_neg z] at h65; exact h65
  refine e_MO_outTags hS ?_
  rw [hsc]
  refine ⟨hscz, fun z => ?_, fun z => ?_⟩
  · rw [if_neg z] at h16; exact h16
  · rw [if_pos z] at h16; exact h16
/-- the raw out: only this byte changes -/
theorem m_outAt {x : Int} {n : Nat} (hS : h.1 = fx_S0 a pp dd) (hn : h.2.1 31 5 = n) (hn2 : n < 2000) (k : Q none (fx_uF (fx_uA h 33 n (x % 256)) 31 5 ((n : Int) + 1))) : fx_Mt l M_MO_out (0, 0) [.ref 31, .int (zI x)] h Q := by
  refine e_MO_out hS ⟨by omega, by omega, ?_⟩
  rw [hn, Int.toNat_natCast]
  exact k
def mF (h : fx_H) (L : List Int) : Prop := ∀ i : Nat, i < L.length → h.2.2.1 33 i = L.getD i 0
theorem mF.set {h : fx_H} {L : List Int} {i : Nat} {x : Int} (c : mF h L) (hi : i < L.length) : mF (fx_uA h 33 i x) (L.set i x) := by
  intro j hj
  rw [getD_set hi]
  by_cases hji : j = i
  · subst hji; rw [if_pos rfl, uA_s]
  · rw [if_neg hji, uA_n _ _ (fun z => hji z.2)]
    refine c j ?_
    simp at hj; exact hj
abbrev nF : Nat → Prop := fun k => k = 5
theorem m_patch {L : List Int} {u : Int} (hS : h.1 = fx_S0 a pp dd) (h4 : h.2.1 31 5 = 4) (mf : mF h L) (hm : h.2.1 31 11 = 0 ∨ h.2.1 31 11 = 1) (hu : zR u) (h8 : 8 ≤ L.length) (hL : L.length ≤ 2000) (k : ∀ h2, mo oA nF h h2 → mF h2 (patJ (h.2.1 31 11) u 4 0 L) → Q none h2) : fx_Mt l M_MO_outNumber (0, 0) [.ref 31, .int (zI u), .int (zI 4)] h Q := by
  refine e_MO_outNumber hS ?_
  have loop : ∀ (m i : Nat) (h3 : fx_H) (L3 : List Int), i + m = 4 → L3.length = L.length → mo oA nF h h3 → h3.2.1 31 5 = ((4 + i : Nat) : Int) → mF h3 L3 → (∀ h2, mo oA nF h h2 → mF h2 (patJ (h.2.1 31 11) u m i L3) → Q none h2) → fx_V l M_MO_outNumber (0, 0) Q 0 0 2 [some (.ref 31), some (.int (zI u)), some (.int (zI 4)), some (.int (zI (i : Nat)))] [] h3 := by
    intro m
    induction m with
    | zero => intro i h3 L3 hi hl c3 n3 f3 kq; exact w_MO_outNumber_2 (c3.S.trans hS) ⟨by omega, by omega, fun _ => kq h3 c3 f3, fun z => by omega⟩
    | succ m ih =>
      intro i h3 L3 hi hl c3 n3 f3 kq
      have hS3 := c3.S.trans hS
      have eb : h3.2.1 31 11 = h.2.1 31 11 := c3.2 11 (by omega)
      have e : ((i : Nat) : Int) + 1 = ((i + 1 : Nat) : Int) := by omega
      rw [patJ] at kq
      have next : ∀ y : Int, y = wnb (h.2.1 31 11) u 4 i → fx_V l M_MO_outNumber (0, 0) Q 0 0 2 [some (.ref 31), some (.int (zI u)), some (.int (zI 4)), some (.int (zI (((i : Nat) : Int) + 1)))] [] (fx_uF (fx_uA h3 33 (4 + i) y) 31 5 (((4 + i : Nat) : Int) + 1)) := by
        intro y hy
        subst hy
        rw [e]
        exact ih (i + 1) _ (L3.set (4 + i) (wnb (h.2.1 31 11) u 4 i)) (by omega) (by rw [List.length_set]; exact hl) (c3.tr ((mo.uA (PA := oA) (show oA 33 from rfl)).tr (mo.uF rfl))) (by rw [uF_s]; omega) (f3.set (by omega)) kq
      refine w_MO_outNumber_2 hS3 ⟨by omega, by omega, fun z => by omega, fun _ => ⟨by omega, fun z => ⟨by omega, hu, ?_⟩, fun z => ⟨by omega, hu, ?_⟩⟩⟩
      · refine m_outAt hS3 n3 (by omega) ⟨rfl, rfl, next _ ?_⟩
        unfold wnb
        rw [if_pos (by omega)]
      · refine m_outAt hS3 n3 (by omega) ⟨rfl, rfl, next _ ?_⟩
        unfold wnb
        rw [if_neg (by omega)]; rfl
  exact loop 4 0 h L rfl rfl mo.rf (by rw [h4]; rfl) mf k
theorem m_MOisScheme {s : Int} (hS : h.1 = fx_S0 a pp dd) (hs : zRL s) (k1 : (s = 1 ∨ s = 32773 ∨ s = 5 ∨ s = 3 ∨ s = 4) → Q (some (.int (zI 1))) h) (k0 : ¬ (s = 1 ∨ s = 32773 ∨ s = 5 ∨ s = 3 ∨ s = 4) → Q (some (.int (zI 0))) h) : fx_Mt l M_MO_isScheme (0, 0) [.long (zL s)] h Q := by
  have i1 := @zC_0 s 1
  have i2 := @zC_0 s 32773
  have i3 := @zC_0 s 5
  have i4 := @zC_0 s 3
  have i5 := @zC_0 s 4
  refine e_MO_isScheme hS ⟨hs, fun z => k1 (by omega), fun z => ⟨fun z2 => k1 (by omega), fun z2 => ⟨fun z3 => k1 (by omega), fun z3 => ⟨fun z4 => k1 (by omega), fun z4 => ⟨fun z5 => k0 (by omega), fun z5 => k1 (by omega)⟩⟩⟩⟩⟩
end MX
