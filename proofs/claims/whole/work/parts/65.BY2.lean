/-! Bytes: numbers, codes, the end of bits -/
def lg (u : Int) : Int := ((u.toNat.log2 : Nat) : Int)
theorem lg_step {u : Int} (h : 2 ≤ u) : lg u = lg (u / 2 ^ 1) + 1 := by
  unfold lg
  have e : (u / 2 ^ 1).toNat = u.toNat / 2 := by omega
  rw [e, Nat.log2_def, if_pos (by omega)]
  omega
theorem lg_1 : lg 1 = 0 := by decide +kernel
section BZ
variable {l : Launch} {Q : Option Value → fx_H → Prop} {h : fx_H} {a : Nat → Nat} {pp dd : Nat}
theorem m_lengthOf {u : Int} (hS : h.1 = fx_S0 a pp dd) (hu : 1 ≤ u) (hu2 : u < 2147483648) (k : Q (some (.int (zI (lg u)))) h) : fx_Mt l M_FP_lengthOf (0, 0) [.int (zI u)] h Q := by
  refine e_FP_lengthOf hS ?_
  have loop : ∀ (n : Nat) (x1 x2 : Int), x2.toNat ≤ n → 1 ≤ x2 → x2 < 2147483648 → Q (some (.int (zI (x1 + lg x2)))) h → fx_V l M_FP_lengthOf (0, 0) Q 0 0 4 [none, some (.int (zI x1)), some (.int (zI x2))] [] h := by
    intro n
    induction n with
    | zero => intro x1 x2 h1 h2; omega
    | succ n ih =>
      intro x1 x2 h1 h2 h3 k
      refine w_FP_lengthOf_4 hS ⟨by omega, fun z => ?_, fun z => ?_⟩
      · have : x2 = 1 := by omega
        subst this
        rw [lg_1, Int.add_zero] at k
        exact k
      · refine ih _ _ (by omega) (by omega) (by omega) ?_
        rw [lg_step (by omega)] at k
        rw [show x1 + 1 + lg (x2 / 2 ^ 1) = x1 + (lg (x2 / 2 ^ 1) + 1) by omega]
        exact k
  refine loop u.toNat 0 u (Nat.le_refl _) hu hu2 ?_
  rw [Int.zero_add]
  exact k
theorem m_appendCode {s : WS} {u : Int} (hS : h.1 = fx_S0 a pp dd) (cw : cW h s) (ok : isW s) (hu : 1 ≤ u) (hu2 : u < 2147483648) (hl : lg u ≤ 31) (cap : tb s + lg u ≤ 16000) (k : ∀ h2, cs h h2 → cW h2 (wbits s u (lg u).toNat) → Q none h2) : fx_Mt l M_BY_appendCode (0, 0) [.ref 1, .int (zI u)] h Q :=
  e_BY_appendCode hS (m_lengthOf hS hu hu2 ⟨_, rfl, rfl, m_appendBits hS cw ok (by omega) (by unfold lg; omega) hl cap fun h2 c w => ⟨rfl, c.1.1, k h2 c w⟩⟩)
theorem m_endBits {s : WS} (hS : h.1 = fx_S0 a pp dd) (cw : cW h s) (k : ∀ h2, cs h h2 → cW h2 (wrest s) → Q none h2) : fx_Mt l M_BY_endBits (0, 0) [.ref 1] h Q := by
  refine e_BY_endBits hS (k _ ⟨sm.uF (Or.inl rfl), rfl⟩ ?_)
  obtain ⟨c1, c2, c3, c4⟩ := cw
  unfold wrest
  by_cases hs : s.2 = []
  · rw [if_pos hs]
    refine ⟨c1, ?_, c3, c4⟩
    rw [uF_s, if_pos hs]
  · rw [if_neg hs]
    refine ⟨?_, ?_, fun i hi => ?_, fun z => absurd rfl z⟩
    · show h.2.1 1 1 = _; rw [c1, if_neg hs]; simp
    · rw [uF_s]; simp
    · show h.2.2.1 2 i = (s.1 ++ [bv s.2 * 2 ^ (8 - s.2.length)]).getD i 0
      rw [getD_snoc]
      by_cases hi2 : i = s.1.length
      · rw [if_pos hi2, hi2]; exact c4 hs
      · rw [if_neg hi2]
        refine c3 i ?_
        simp at hi; omega
theorem m_shiftOf {x n : Int} (hS : h.1 = fx_S0 a pp dd) (hm : h.2.1 1 2 = 0 ∨ h.2.1 1 2 = 1) (k : Q (some (.int (zI (if h.2.1 1 2 = 0 then 8 * x else 8 * (n - 1 - x))))) h) : fx_Mt l M_BY_shiftOf (0, 0) [.ref 1, .int (zI x), .int (zI n)] h Q := by
  refine e_BY_shiftOf hS ⟨by omega, fun z => ?_, fun z => ?_⟩
  · rw [if_pos z] at k; exact k
  · rw [if_neg z] at k; exact k
/-- byte i of a number of n bytes -/
def wnb (big u : Int) (n i : Nat) : Int := u / 2 ^ (if big = 0 then 8 * (i : Int) else 8 * ((n : Int) - 1 - i)).toNat % 256
def wnum (big u : Int) (n : Nat) : List Int := (List.range' 0 n).map (wnb big u n)
theorem m_appendNumber {L : List Int} {u : Int} {n : Nat} (hS : h.1 = fx_S0 a pp dd) (cw : cW h (L, [])) (hm : h.2.1 1 2 = 0 ∨ h.2.1 1 2 = 1) (hu : zR u) (hn : n ≤ 4) (hL : L.length + n ≤ 2000) (k : ∀ h2, cs h h2 → cW h2 (L ++ wnum (h.2.1 1 2) u n, []) → Q none h2) : fx_Mt l M_BY_appendNumber (0, 0) [.ref 1, .int (zI (n : Nat)), .int (zI u)] h Q := by
  refine e_BY_appendNumber hS ?_
  have loop : ∀ (m i : Nat) (h3 : fx_H) (L3 : List Int), i + m = n → L3.length + m ≤ 2000 → cW h3 (L3, []) → cs h h3 → (∀ h2, cs h h2 → cW h2 (L3 ++ (List.range' i m).map (wnb (h.2.1 1 2) u n), []) → Q none h2) →
      fx_V l M_BY_appendNumber (0, 0) Q 0 0 2 [some (.ref 1), some (.int (zI (n : Nat))), some (.int (zI u)), some (.int (zI (i : Nat)))] [] h3 := by
    intro m
    induction m with
    | zero =>
      intro i h3 L3 hi hl cw c3 k
      refine w_BY_appendNumber_2 (c3.1.1.trans hS) ⟨by omega, by omega, fun _ => k h3 c3 ?_, fun z => by omega⟩
      simpa using cw
    | succ m ih =>
      intro i h3 L3 hi hl cw c3 k
      have hS3 := c3.1.1.trans hS
      have hm3 : h3.2.1 1 2 = 0 ∨ h3.2.1 1 2 = 1 := by rw [c3.2]; exact hm
      refine w_BY_appendNumber_2 hS3 ⟨by omega, by omega, fun z => by omega, fun _ => m_shiftOf hS3 hm3 ⟨_, rfl, rfl, by split <;> omega, hu, ?_⟩⟩
      refine m_append hS3 cw (by omega) fun h4 c4 w4 => ⟨rfl, c4.1.1, ?_⟩
      have e : ((i : Nat) : Int) + 1 = ((i + 1 : Nat) : Int) := by omega
      rw [e]
      refine ih (i + 1) h4 _ (by omega) (by simp; omega) w4 (c3.tr c4) fun h2 c2 w2 => k h2 c2 ?_
      rw [List.range'_succ, List.map_cons]
      rw [c3.2] at w2
      simpa [wnb] using w2
  exact loop n 0 h L (by omega) hL cw cs.rf k
end BZ
