/-! the reference as a writer -/
def mo (PA PF : Nat → Prop) (h h2 : fx_H) : Prop := sm (fun j => j = 31 ∨ PA j) h h2 ∧ ∀ k, ¬ PF k → h2.2.1 31 k = h.2.1 31 k
theorem mo.rf {PA PF : Nat → Prop} {h : fx_H} : mo PA PF h h := ⟨sm.rf, fun _ _ => rfl⟩
theorem mo.tr {PA PF : Nat → Prop} {h h2 h3 : fx_H} (a : mo PA PF h h2) (b : mo PA PF h2 h3) : mo PA PF h h3 := ⟨a.1.tr b.1, fun k hk => (b.2 k hk).trans (a.2 k hk)⟩
theorem mo.mono {PA PF PA2 PF2 : Nat → Prop} {h h2 : fx_H} (a : mo PA PF h h2) (h1 : ∀ j, PA j → PA2 j) (h3 : ∀ k, PF k → PF2 k) : mo PA2 PF2 h h2 := ⟨a.1.mono fun q hq => hq.imp id (h1 q), fun k hk => a.2 k fun z => hk (h3 k z)⟩
theorem mo.uF {PA PF : Nat → Prop} {h : fx_H} {k : Nat} {x : Int} (hk : PF k) : mo PA PF h (fx_uF h 31 k x) := ⟨sm.uF (Or.inl rfl), fun j hj => uF_n _ _ (by rintro ⟨-, rfl⟩; exact hj hk)⟩
theorem mo.uA {PA PF : Nat → Prop} {h : fx_H} {q k : Nat} {x : Int} (hq : PA q) : mo PA PF h (fx_uA h q k x) := ⟨sm.uA (Or.inr hq), fun _ _ => rfl⟩
theorem mo.S {PA PF : Nat → Prop} {h h2 : fx_H} (a : mo PA PF h h2) : h2.1 = h.1 := a.1.1
abbrev oA : Nat → Prop := fun j => j = 33
abbrev oF : Nat → Prop := fun k => k = 5 ∨ k = 18 ∨ k = 19
def mW (h : fx_H) (s : WS) : Prop := h.2.1 31 5 = s.1.length ∧ h.2.1 31 18 = bv s.2 ∧ h.2.1 31 19 = s.2.length ∧ ∀ i : Nat, i < s.1.length → h.2.2.1 33 i = s.1.getD i 0
section MOW
variable {l : Launch} {Q : Option Value → fx_H → Prop} {h : fx_H} {a : Nat → Nat} {pp dd : Nat}
theorem m_out {L w : List Int} {x : Int} (hS : h.1 = fx_S0 a pp dd) (mw : mW h (L, w)) (hL : L.length < 2000) (k : ∀ h2, mo oA oF h h2 → mW h2 (L ++ [x % 256], w) → Q none h2) : fx_Mt l M_MO_out (0, 0) [.ref 31, .int (zI x)] h Q := by
  obtain ⟨c1, c2, c3, c4⟩ := mw
  simp only at c1 c2 c3 c4
  refine e_MO_out hS ⟨by omega, by omega, k _ ((mo.uA (PA := oA) (show oA 33 from rfl)).tr (mo.uF (Or.inl rfl))) ⟨?_, ?_, ?_, fun i hi => ?_⟩⟩
  · rw [uF_s, c1]; simp
  · rw [uF_n _ _ (by omega)]; exact c2
  · rw [uF_n _ _ (by omega)]; exact c3
  · show (fx_uA h 33 (h.2.1 31 5).toNat (x % 256)).2.2.1 33 i = (L ++ [x % 256]).getD i 0
    rw [c1, Int.toNat_natCast, getD_snoc]
    by_cases hi2 : i = L.length
    · subst hi2; rw [uA_s, if_pos rfl]
    · rw [uA_n _ _ (fun z => hi2 z.2), if_neg hi2]
      refine c4 i ?_
      simp at hi; omega
theorem m_outBit {s : WS} {b : Int} (hS : h.1 = fx_S0 a pp dd) (mw : mW h s) (ok : isW s) (hb : b = 0 ∨ b = 1) (cap : tb s + 1 ≤ 16000) (k : ∀ h2, mo oA oF h h2 → mW h2 (wbit s b) → Q none h2) : fx_Mt l M_MO_outBit (0, 0) [.ref 31, .int (zI b)] h Q := by
  obtain ⟨L, w⟩ := s
  obtain ⟨c1, c2, c3, c4⟩ := id mw
  simp only at c1 c2 c3 c4
  have hw8 : w.length < 8 := ok.2.2
  unfold wbit at k
  simp only at k
  refine e_MO_outBit hS ⟨by omega, fun z => ?_, fun z => ?_⟩
  · rw [if_neg (by omega)] at k
    refine k _ ((mo.uF (by omega)).tr (mo.uF (by omega))) ⟨c1, ?_, ?_, c4⟩
    · rw [uF_n _ _ (by omega), uF_s, c2, bv_snoc]
    · rw [uF_s, c3]; simp
  · have h7 : w.length = 7 := by omega
    rw [if_pos h7] at k
    have hbb : ∀ x ∈ w ++ [b], x = 0 ∨ x = 1 := by
      intro x hx
      rcases List.mem_append.mp hx with hx | hx
      · exact ok.2.1 x hx
      · rw [List.mem_singleton] at hx; subst hx; exact hb
    have hbv := bv_R _ hbb
    rw [List.length_append, h7] at hbv
    simp at hbv
    have hL : L.length < 2000 := by unfold tb at cap; simp at cap; omega
    have e : 2 * h.2.1 31 18 + b = bv (w ++ [b]) := by rw [c2, bv_snoc]
    refine m_out (L := L) (w := w ++ [b]) (h := fx_uF (fx_uF h 31 18 (2 * h.2.1 31 18 + b)) 31 19 (h.2.1 31 19 + 1)) hS ⟨c1, ?_, ?_, c4⟩ hL fun h2 m2 w2 => ⟨rfl, m2.S, k _ ?_ ?_⟩
    · rw [uF_n _ _ (by omega), uF_s]; exact e
    · rw [uF_s, c3]; simp
    · exact (((mo.uF (by omega)).tr (mo.uF (by omega))).tr m2).tr ((mo.uF (by omega)).tr (mo.uF (by omega)))
    · rw [e, show bv (w ++ [b]) % 256 = bv (w ++ [b]) by omega] at w2
      refine ⟨w2.1, ?_, ?_, w2.2.2.2⟩
      · rw [uF_n _ _ (by omega), uF_s]; rfl
      · rw [uF_s]; rfl
theorem m_outBits {s : WS} {u n : Int} (hS : h.1 = fx_S0 a pp dd) (mw : mW h s) (ok : isW s) (hu : zR u) (hn : 0 ≤ n) (hn2 : n ≤ 31) (cap : tb s + n ≤ 16000) (k : ∀ h2, mo oA oF h h2 → mW h2 (wbits s u n.toNat) → Q none h2) : fx_Mt l M_MO_outBits (0, 0) [.ref 31, .int (zI u), .int (zI n)] h Q := by
  refine e_MO_outBits hS ?_
  have loop : ∀ (m : Nat) (h3 : fx_H) (s : WS), m ≤ 31 → tb s + m ≤ 16000 → isW s → mW h3 s → h3.1 = h.1 → (∀ h2, mo oA oF h3 h2 → mW h2 (wbits s u m) → Q none h2) →
      fx_V l M_MO_outBits (0, 0) Q 0 0 4 [some (.ref 31), some (.int (zI u)), none, some (.int (zI ((m : Nat) - 1)))] [] h3 := by
    intro m
    induction m with
    | zero =>
      intro h3 s hm cap ok mw e3 k
      exact w_MO_outBits_4 (e3.trans hS) ⟨by omega, fun _ => k h3 mo.rf mw, fun z => by omega⟩
    | succ m ih =>
      intro h3 s hm cap ok mw e3 k
      have hb : u / 2 ^ m % 2 = 0 ∨ u / 2 ^ m % 2 = 1 := by omega
      have em : ((m + 1 : Nat) : Int) - 1 = m := by omega
      have em2 : ((m : Nat) : Int) + -1 = (m : Int) - 1 := by omega
      have ht := tb_bit ok.2.2 (u / 2 ^ m % 2)
      rw [em]
      refine w_MO_outBits_4 (e3.trans hS) ⟨by omega, fun z => by omega, fun _ => ⟨by omega, hu, ?_⟩⟩
      rw [Int.toNat_natCast]
      refine m_outBit (e3.trans hS) mw ok hb (by omega) fun h4 m4 w4 => ⟨rfl, m4.S, ?_⟩
      rw [em2]
      exact ih h4 _ (by omega) (by rw [ht]; omega) (isW_bit ok hb) w4 (m4.S.trans e3) fun h2 m2 w2 => k h2 (m4.tr m2) w2
  have e : n - 1 = ((n.toNat : Nat) : Int) - 1 := by omega
  rw [e]
  exact loop n.toNat h s (by omega) (by omega) ok mw rfl k
theorem wrest_bit {s : WS} (h8 : s.2.length < 8) (hs : s.2 ≠ []) : wrest (wbit s 0) = wrest s := by
  obtain ⟨L, w⟩ := s
  simp only at h8 hs
  unfold wbit wrest
  by_cases h7 : w.length = 7
  · simp only [h7, if_true, hs, if_false, bv_snoc]
    congr 2
    rw [show 8 - 7 = 1 from rfl]
    have : 2 * bv w + 0 = bv w * 2 ^ 1 := by omega
    rw [this]
  · simp only [h7, if_false, hs]
    rw [if_neg (by simp)]
    simp only [bv_snoc, List.length_append]
    congr 3
    rw [show 8 - w.length = (8 - (w.length + [(0 : Int)].length)) + 1 by simp; omega, Int.pow_succ, Int.add_zero, Int.mul_comm 2 (bv w), Int.mul_assoc, Int.mul_comm 2]
theorem m_outRest {s : WS} (hS : h.1 = fx_S0 a pp dd) (mw : mW h s) (ok : isW s) (cap : tb s + 8 ≤ 16000) (k : ∀ h2, mo oA oF h h2 → mW h2 (wrest s) → Q none h2) : fx_Mt l M_MO_outRest (0, 0) [.ref 31] h Q := by
  refine e_MO_outRest hS ?_
  have loop : ∀ (m : Nat) (h3 : fx_H) (s : WS), (if s.2 = [] then 0 else 8 - s.2.length) = m → tb s + m ≤ 16000 → isW s → mW h3 s → h3.1 = h.1 → (∀ h2, mo oA oF h3 h2 → mW h2 (wrest s) → Q none h2) →
      fx_V l M_MO_outRest (0, 0) Q 0 0 0 [some (.ref 31)] [] h3 := by
    intro m
    induction m with
    | zero =>
      intro h3 s hm cap ok mw e3 k
      have hs : s.2 = [] := by
        by_cases hs : s.2 = []
        · exact hs
        · rw [if_neg hs] at hm; have := ok.2.2; omega
      have hr : wrest s = s := by unfold wrest; rw [if_pos hs]
      rw [hr] at k
      have h0 : h3.2.1 31 19 = 0 := by rw [mw.2.2.1, hs]; rfl
      exact w_MO_outRest_0 (e3.trans hS) ⟨by omega, fun _ => k h3 mo.rf mw, fun z => by omega⟩
    | succ m ih =>
      intro h3 s hm cap ok mw e3 k
      have hs : ¬ s.2 = [] := by intro hs; rw [if_pos hs] at hm; cases hm
      rw [if_neg hs] at hm
      have hpos : 0 < s.2.length := List.length_pos_iff.mpr hs
      have h0 : h3.2.1 31 19 = s.2.length := mw.2.2.1
      have h8 : s.2.length < 8 := ok.2.2
      refine w_MO_outRest_0 (e3.trans hS) ⟨by omega, fun z => by omega, fun _ => m_outBit (e3.trans hS) mw ok (Or.inl rfl) (by omega) fun h4 m4 w4 => ⟨rfl, m4.S, ?_⟩⟩
      refine ih h4 _ ?_ (by rw [tb_bit h8]; omega) (isW_bit ok (Or.inl rfl)) w4 (m4.S.trans e3) fun h2 m2 w2 => k h2 (m4.tr m2) ?_
      · unfold wbit
        by_cases h7 : s.2.length = 7
        · rw [if_pos h7]; simp; omega
        · rw [if_neg h7]; simp; omega
      · rw [wrest_bit h8 hs] at w2; exact w2
  exact loop _ h s rfl (by split <;> omega) ok mw rfl k
theorem m_outNumber {L : List Int} {u : Int} {n : Nat} (hS : h.1 = fx_S0 a pp dd) (mw : mW h (L, [])) (hm : h.2.1 31 11 = 0 ∨ h.2.1 31 11 = 1) (hu : zR u) (hn : n ≤ 4) (hL : L.length + n ≤ 2000) (k : ∀ h2, mo oA oF h h2 → mW h2 (L ++ wnum (h.2.1 31 11) u n, []) → Q none h2) : fx_Mt l M_MO_outNumber (0, 0) [.ref 31, .int (zI u), .int (zI (n : Nat))] h Q := by
  refine e_MO_outNumber hS ?_
  have loop : ∀ (m i : Nat) (h3 : fx_H) (L3 : List Int), i + m = n → L3.length + m ≤ 2000 → mW h3 (L3, []) → mo oA oF h h3 → (∀ h2, mo oA oF h h2 → mW h2 (L3 ++ (List.range' i m).map (wnb (h.2.1 31 11) u n), []) → Q none h2) →
      fx_V l M_MO_outNumber (0, 0) Q 0 0 2 [some (.ref 31), some (.int (zI u)), some (.int (zI (n : Nat))), some (.int (zI (i : Nat)))] [] h3 := by
    intro m
    induction m with
    | zero =>
      intro i h3 L3 hi hl mw c3 k
      refine w_MO_outNumber_2 (c3.S.trans hS) ⟨by omega, by omega, fun _ => k h3 c3 ?_, fun z => by omega⟩
      simpa using mw
    | succ m ih =>
      intro i h3 L3 hi hl mw c3 k
      have hS3 := c3.S.trans hS
      have eb : h3.2.1 31 11 = h.2.1 31 11 := c3.2 11 (by omega)
      have e : ((i : Nat) : Int) + 1 = ((i + 1 : Nat) : Int) := by omega
      have next : ∀ (h4 : fx_H) (y : Int), y = wnb (h.2.1 31 11) u n i → mo oA oF h3 h4 → mW h4 (L3 ++ [y], []) → fx_V l M_MO_outNumber (0, 0) Q 0 0 2 [some (.ref 31), some (.int (zI u)), some (.int (zI (n : Nat))), some (.int (zI (((i : Nat) : Int) + 1)))] [] h4 := by
        intro h4 y hy m4 w4
        rw [e]
        refine ih (i + 1) h4 _ (by omega) (by simp; omega) w4 (c3.tr m4) fun h2 c2 w2 => k h2 c2 ?_
        rw [List.range'_succ, List.map_cons, ← hy]
        simpa using w2
      refine w_MO_outNumber_2 hS3 ⟨by omega, by omega, fun z => by omega, fun _ => ⟨by omega, fun z => ⟨by omega, hu, ?_⟩, fun z => ⟨by omega, hu, ?_⟩⟩⟩
      · refine m_out hS3 mw (by omega) fun h4 m4 w4 => ⟨rfl, m4.S, next h4 _ ?_ m4 w4⟩
        unfold wnb
        rw [if_pos (by omega)]
      · refine m_out hS3 mw (by omega) fun h4 m4 w4 => ⟨rfl, m4.S, next h4 _ ?_ m4 w4⟩
        unfold wnb
        rw [if_neg (by omega)]
  exact loop n 0 h L (by omega) hL mw mo.rf k
end MOW
