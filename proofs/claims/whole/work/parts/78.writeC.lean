/-! the class writes a file -/
theorem getD_set {L : List Int} {i : Nat} (hi : i < L.length) (x : Int) (j : Nat) : (L.set i x).getD j 0 = if j = i then x else L.getD j 0 := by
  simp only [List.getD_eq_getElem?_getD]
  by_cases hj : j = i
  · subst hj; rw [if_pos rfl, List.getElem?_set_self hi]; rfl
  · rw [if_neg hj, List.getElem?_set_ne (fun z => hj z.symm)]
theorem cW.set {h : fx_H} {L : List Int} {i : Nat} {x : Int} (c : cW h (L, [])) (hi : i < L.length) : cW (fx_uA h 2 i x) (L.set i x, []) := by
  obtain ⟨c1, c2, c3, -⟩ := c
  refine ⟨?_, c2, fun j hj => ?_, fun z => absurd rfl z⟩
  · show h.2.1 1 1 = _; rw [c1]; simp
  · show _ = (L.set i x).getD j 0
    rw [getD_set hi]
    by_cases hji : j = i
    · subst hji; rw [if_pos rfl, uA_s]
    · rw [if_neg hji, uA_n _ _ (fun z => hji z.2)]
      refine c3 j ?_
      simp at hj; exact hj
section FW
variable {l : Launch} {Q : Option Value → fx_H → Prop} {h : fx_H} {a : Nat → Nat} {pp dd : Nat} {g w t : Int} {f : Int → Int → Int} {b : Int}
theorem cW.len {h : fx_H} {L : List Int} (c : cW h (L, [])) : h.2.1 1 1 = L.length := by rw [c.1]; simp
theorem m_changeNumber {L : List Int} {u : Int} (hS : h.1 = fx_S0 a pp dd) (cw : cW h (L, [])) (hm : h.2.1 1 2 = 0 ∨ h.2.1 1 2 = 1) (hu : zR u) (h8 : 8 ≤ L.length) (hL : L.length ≤ 2000) (k : ∀ h2, cs h h2 → cW h2 (patJ (h.2.1 1 2) u 4 0 L, []) → Q none h2) : fx_Mt l M_BY_changeNumber (0, 0) [.ref 1, .int (zI 4), .int (zI 4), .int (zI u)] h Q := by
  refine e_BY_changeNumber hS ?_
  have loop : ∀ (m i : Nat) (h3 : fx_H) (L3 : List Int), i + m = 4 → L3.length = L.length → cs h h3 → cW h3 (L3, []) → (∀ h2, cs h h2 → cW h2 (patJ (h.2.1 1 2) u m i L3, []) → Q none h2) → fx_V l M_BY_changeNumber (0, 0) Q 0 0 3 [some (.ref 1), some (.int (zI 4)), some (.int (zI 4)), some (.int (zI u)), some (.int (zI (i : Nat)))] [] h3 := by
    intro m
    induction m with
    | zero => intro i h3 L3 hi hl c3 w3 kq; exact w_BY_changeNumber_3 (c3.1.1.trans hS) ⟨by omega, by omega, fun _ => kq h3 c3 w3, fun z => by omega⟩
    | succ m ih =>
      intro i h3 L3 hi hl c3 w3 kq
      have hS3 := c3.1.1.trans hS
      have hm3 : h3.2.1 1 2 = 0 ∨ h3.2.1 1 2 = 1 := by rw [c3.2]; exact hm
      have hu3 := w3.len
      refine w_BY_changeNumber_3 hS3 ⟨by omega, by omega, fun z => by omega, fun _ => m_shiftOf hS3 hm3 ⟨_, rfl, rfl, by split <;> omega, hu, ?_⟩⟩
      refine m_change hS3 (by omega) (by omega) (by omega) (by omega) ⟨rfl, rfl, ?_⟩
      have e : ((i : Nat) : Int) + 1 = ((i + 1 : Nat) : Int) := by omega
      have e2 : (4 + ((i : Nat) : Int)).toNat = 4 + i := by omega
      rw [e, e2]
      have ew : u / 2 ^ (if h3.2.1 1 2 = 0 then 8 * ((i : Nat) : Int) else 8 * (4 - 1 - ((i : Nat) : Int))).toNat % 256 = wnb (h.2.1 1 2) u 4 i := by rw [c3.2]; rfl
      rw [ew]
      rw [patJ] at kq
      exact ih (i + 1) _ (L3.set (4 + i) (wnb (h.2.1 1 2) u 4 i)) (by omega) (by rw [List.length_set]; exact hl) (c3.tr ⟨sm.uA (Or.inr rfl), rfl⟩) (w3.set (by omega)) kq
  exact loop 4 0 h L rfl rfl cs.rf cw k
theorem m_num {L : List Int} {u : Int} (n : Nat) (hS : h.1 = fx_S0 a pp dd) (cw : cW h (L, [])) (hb : h.2.1 1 2 = b) (hm : b = 0 ∨ b = 1) (hu : zR u) (hn : n ≤ 4) (hL : L.length + n ≤ 2000) (k : ∀ h2, cs h h2 → cW h2 (L ++ wnum b u n, []) → Q none h2) : fx_Mt l M_BY_appendNumber (0, 0) [.ref 1, .int (zI (n : Nat)), .int (zI u)] h Q := by
  subst hb; exact m_appendNumber hS cw hm hu hn hL k
theorem m_start (hS : h.1 = fx_S0 a pp dd) (hb : b = 0 ∨ b = 1) (k : ∀ h2, sm (fun j => j = 1 ∨ j = 2) h h2 → h2.2.1 1 2 = b → cW h2 (whead b, []) → Q none h2) : fx_Mt l M_BY_start (0, 0) [.ref 1, .int (zI b)] h Q := by
  have w0 : cW (fx_uF (fx_uF (fx_uF h 1 1 0) 1 3 0) 1 2 b) ([], []) := ⟨by rw [uF_n _ _ (by omega), uF_n _ _ (by omega), uF_s]; simp, by rw [uF_n _ _ (by omega), uF_s]; simp, fun i hi => by simp at hi, fun z => absurd rfl z⟩
  have b0 : (fx_uF (fx_uF (fx_uF h 1 1 0) 1 3 0) 1 2 b).2.1 1 2 = b := uF_s _ _ _ _
  have s0 : sm (fun j => j = 1 ∨ j = 2) h (fx_uF (fx_uF (fx_uF h 1 1 0) 1 3 0) 1 2 b) := ((sm.uF (Or.inl rfl)).tr (sm.uF (Or.inl rfl))).tr (sm.uF (Or.inl rfl))
  have tail : ∀ (h4 : fx_H) (c : Int), c = (if b = 0 then 73 else 77) → cs (fx_uF (fx_uF (fx_uF h 1 1 0) 1 3 0) 1 2 b) h4 → cW h4 ([(if b = 0 then 73 else 77)], []) → fx_Mt l M_BY_append (0, 0) [.ref 1, .int (zI c)] h4 (fun v h8 => v = none ∧ h8.1 = h4.1 ∧ fx_Mt l M_BY_appendNumber (0, 0) [.ref 1, .int (zI 2), .int (zI 42)] h8 (fun v h10 => v = none ∧ h10.1 = h8.1 ∧ fx_Mt l M_BY_appendNumber (0, 0) [.ref 1, .int (zI 4), .int (zI 0)] h10 (fun v h12 => v = none ∧ h12.1 = h10.1 ∧ Q none h12))) := by
    intro h4 c hc c4 w4
    subst hc
    have hS4 : h4.1 = fx_S0 a pp dd := c4.1.1.trans hS
    refine m_append hS4 w4 (by simp) fun h5 c5 w5 => ⟨rfl, c5.1.1, ?_⟩
    refine m_num 2 (c5.1.1.trans hS4) w5 ((c5.2.trans c4.2).trans b0) hb (by omega) (by omega) (by simp) fun h6 c6 w6 => ⟨rfl, c6.1.1, ?_⟩
    refine m_num 4 (c6.1.1.trans (c5.1.1.trans hS4)) w6 (((c6.2.trans c5.2).trans c4.2).trans b0) hb (by omega) (by omega) (by simp [wnum_len]) fun h7 c7 w7 => ⟨rfl, c7.1.1, ?_⟩
    exact k h7 ((((s0.tr c4.1).tr c5.1).tr c6.1).tr c7.1) ((((c7.2.trans c6.2).trans c5.2).trans c4.2).trans b0) w7
  refine e_BY_start hS ⟨hb, by omega, fun z => ?_, fun z => ?_⟩
  · refine m_append (h := fx_uF (fx_uF (fx_uF h 1 1 0) 1 3 0) 1 2 b) hS w0 (by simp) fun h4 c4 w4 => ⟨rfl, c4.1.1, ?_⟩
    have b4 : h4.2.1 1 2 = b := c4.2.trans b0
    rw [b4]
    refine ⟨by omega, fun _ => tail h4 _ (by rw [if_pos z]) c4 (by rw [if_pos z]; exact w4), fun z2 => absurd z z2⟩
  · refine m_append (h := fx_uF (fx_uF (fx_uF h 1 1 0) 1 3 0) 1 2 b) hS w0 (by simp) fun h4 c4 w4 => ⟨rfl, c4.1.1, ?_⟩
    have b4 : h4.2.1 1 2 = b := c4.2.trans b0
    rw [b4]
    refine ⟨by omega, fun z2 => absurd z2 z, fun _ => tail h4 _ (by rw [if_neg z]) c4 (by rw [if_neg z]; exact w4)⟩
theorem m_shortTag {L : List Int} {n u : Int} (hS : h.1 = fx_S0 a pp dd) (q : pd pp dd) (cw : cW h (L, [])) (hb : h.2.1 1 2 = b) (hm : b = 0 ∨ b = 1) (hn : zR n) (hu : zR u) (hL : L.length + 12 ≤ 2000) (k : ∀ h2, cs h h2 → cW h2 (L ++ stg b n u, []) → Q none h2) : fx_Mt l M_FP_appendShortTag (0, 0) [.ref 0, .int (zI n), .int (zI u)] h Q := by
  refine e_FP_appendShortTag hS (pA hS q) (pB hS q) (dA hS q) (dB hS q) ?_
  refine m_num 2 hS cw hb hm hn (by omega) (by omega) fun h4 c4 w4 => ⟨rfl, c4.1.1, ?_⟩
  refine m_num 2 (c4.1.1.trans hS) w4 (c4.2.trans hb) hm (by omega) (by omega) (by simp [wnum_len]; omega) fun h5 c5 w5 => ⟨rfl, c5.1.1, ?_⟩
  have c45 := c4.tr c5
  refine m_num 4 (c45.1.1.trans hS) w5 (c45.2.trans hb) hm (by omega) (by omega) (by simp [wnum_len]; omega) fun h6 c6 w6 => ⟨rfl, c6.1.1, ?_⟩
  have c46 := c45.tr c6
  refine m_num 2 (c46.1.1.trans hS) w6 (c46.2.trans hb) hm hu (by omega) (by simp [wnum_len]; omega) fun h7 c7 w7 => ⟨rfl, c7.1.1, ?_⟩
  have c47 := c46.tr c7
  refine m_num 2 (c47.1.1.trans hS) w7 (c47.2.trans hb) hm (by omega) (by omega) (by simp [wnum_len]; omega) fun h8 c8 w8 => ⟨rfl, c8.1.1, k h8 (c47.tr c8) ?_⟩
  unfold stg
  simp only [List.append_assoc] at w8
  exact w8
theorem m_longTag {L : List Int} {n c u : Int} (hS : h.1 = fx_S0 a pp dd) (q : pd pp dd) (cw : cW h (L, [])) (hb : h.2.1 1 2 = b) (hm : b = 0 ∨ b = 1) (hn : zR n) (hc : zR c) (hu : zR u) (hL : L.length + 12 ≤ 2000) (k : ∀ h2, cs h h2 → cW h2 (L ++ ltg b n c u, []) → Q none h2) : fx_Mt l M_FP_appendLongTag (0, 0) [.ref 0, .int (zI n), .int (zI c), .int (zI u)] h Q := by
  refine e_FP_appendLongTag hS (pA hS q) (pB hS q) (dA hS q) (dB hS q) ?_
  refine m_num 2 hS cw hb hm hn (by omega) (by omega) fun h4 c4 w4 => ⟨rfl, c4.1.1, ?_⟩
  refine m_num 2 (c4.1.1.trans hS) w4 (c4.2.trans hb) hm (by omega) (by omega) (by simp [wnum_len]; omega) fun h5 c5 w5 => ⟨rfl, c5.1.1, ?_⟩
  have c45 := c4.tr c5
  refine m_num 4 (c45.1.1.trans hS) w5 (c45.2.trans hb) hm hc (by omega) (by simp [wnum_len]; omega) fun h6 c6 w6 => ⟨rfl, c6.1.1, ?_⟩
  have c46 := c45.tr c6
  refine m_num 4 (c46.1.1.trans hS) w6 (c46.2.trans hb) hm hu (by omega) (by simp [wnum_len]; omega) fun h7 c7 w7 => ⟨rfl, c7.1.1, k h7 (c46.tr c7) ?_⟩
  unfold ltg
  simp only [List.append_assoc] at w7
  exact w7
theorem m_appendLongs_25 {L : List Int} {v : Nat → Int} {m : Nat} (hS : h.1 = fx_S0 a pp dd) (q : pd pp dd) (cw : cW h (L, [])) (hb : h.2.1 1 2 = b) (hm : b = 0 ∨ b = 1) (hv : ∀ i : Nat, i < m → h.2.2.1 25 i = v i ∧ zR (v i)) (hm4 : m ≤ 24) (hL : L.length + 4 * m ≤ 2000) (k : ∀ h2, cs h h2 → cW h2 (L ++ longs b v m 0, []) → Q (some (.int (zI L.length))) h2) : fx_Mt l M_FP_appendLongs (0, 0) [.ref 0, .ref 25, .int (zI (m : Nat))] h Q := by
  refine e_FP_appendLongs_25 hS (pA hS q) (pB hS q) (dA hS q) (dB hS q) ?_
  have loop : ∀ (j i : Nat) (h3 : fx_H) (L3 : List Int), i + j = m → L3.length + 4 * j ≤ 2000 → cs h h3 → cW h3 (L3, []) → (∀ h2, cs h h2 → cW h2 (L3 ++ longs b v j i, []) → Q (some (.int (zI L.length))) h2) → fx_V l M_FP_appendLongs (0, 0) Q 0 0 11 [some (.ref 0), some (.ref 25), some (.int (zI (m : Nat))), some (.int (zI (h.2.1 1 1))), some (.int (zI (i : Nat)))] [] h3 := by
    intro j
    induction j with
    | zero =>
      intro i h3 L3 hi hl c3 w3 kq
      have hS3 := c3.1.1.trans hS
      have kq := kq h3 c3 (by simpa [longs] using w3)
      rw [← cw.len] at kq
      exact w_FP_appendLongs_11_25 hS3 (pA hS3 q) (pB hS3 q) (dA hS3 q) (dB hS3 q) ⟨by omega, by omega, fun _ => kq, fun z => by omega⟩
    | succ j ih =>
      intro i h3 L3 hi hl c3 w3 kq
      have hS3 := c3.1.1.trans hS
      have hvi := hv i (by omega)
      refine w_FP_appendLongs_11_25 hS3 (pA hS3 q) (pB hS3 q) (dA hS3 q) (dB hS3 q) ⟨by omega, by omega, fun z => by omega, fun _ => ⟨fun z => by omega, fun _ => ⟨by omega, by omega, ?_⟩⟩⟩
      rw [Int.toNat_natCast, c3.1.2.2.1 25 i (by omega), hvi.1]
      refine m_num 4 hS3 w3 (c3.2.trans hb) hm hvi.2 (by omega) (by omega) fun h4 c4 w4 => ⟨rfl, c4.1.1, ?_⟩
      have e : ((i : Nat) : Int) + 1 = ((i + 1 : Nat) : Int) := by omega
      rw [e]
      refine ih (i + 1) h4 _ (by omega) (by simp [wnum_len]; omega) (c3.tr c4) w4 fun h5 c5 w5 => kq h5 c5 ?_
      rw [longs, ← List.append_assoc]; exact w5
  exact loop m 0 h L (Nat.zero_add _) hL cs.rf cw k
theorem m_appendLongs_26 {L : List Int} {v : Nat → Int} {m : Nat} (hS : h.1 = fx_S0 a pp dd) (q : pd pp dd) (cw : cW h (L, [])) (hb : h.2.1 1 2 = b) (hm : b = 0 ∨ b = 1) (hv : ∀ i : Nat, i < m → h.2.2.1 26 i = v i ∧ zR (v i)) (hm4 : m ≤ 24) (hL : L.length + 4 * m ≤ 2000) (k : ∀ h2, cs h h2 → cW h2 (L ++ longs b v m 0, []) → Q (some (.int (zI L.length))) h2) : fx_Mt l M_FP_appendLongs (0, 0) [.ref 0, .ref 26, .int (zI (m : Nat))] h Q := by
  refine e_FP_appendLongs_26 hS (pA hS q) (pB hS q) (dA hS q) (dB hS q) ?_
  have loop : ∀ (j i : Nat) (h3 : fx_H) (L3 : List Int), i + j = m → L3.length + 4 * j ≤ 2000 → cs h h3 → cW h3 (L3, []) → (∀ h2, cs h h2 → cW h2 (L3 ++ longs b v j i, []) → Q (some (.int (zI L.length))) h2) → fx_V l M_FP_appendLongs (0, 0) Q 0 0 11 [some (.ref 0), some (.ref 26), some (.int (zI (m : Nat))), some (.int (zI (h.2.1 1 1))), some (.int (zI (i : Nat)))] [] h3 := by
    intro j
    induction j with
    | zero =>
      intro i h3 L3 hi hl c3 w3 kq
      have hS3 := c3.1.1.trans hS
      have kq := kq h3 c3 (by simpa [longs] using w3)
      rw [← cw.len] at kq
      exact w_FP_appendLongs_11_26 hS3 (pA hS3 q) (pB hS3 q) (dA hS3 q) (dB hS3 q) ⟨by omega, by omega, fun _ => kq, fun z => by omega⟩
    | succ j ih =>
      intro i h3 L3 hi hl c3 w3 kq
      have hS3 := c3.1.1.trans hS
      have hvi := hv i (by omega)
      refine w_FP_appendLongs_11_26 hS3 (pA hS3 q) (pB hS3 q) (dA hS3 q) (dB hS3 q) ⟨by omega, by omega, fun z => by omega, fun _ => ⟨fun z => by omega, fun _ => ⟨by omega, by omega, ?_⟩⟩⟩
      rw [Int.toNat_natCast, c3.1.2.2.1 26 i (by omega), hvi.1]
      refine m_num 4 hS3 w3 (c3.2.trans hb) hm hvi.2 (by omega) (by omega) fun h4 c4 w4 => ⟨rfl, c4.1.1, ?_⟩
      have e : ((i : Nat) : Int) + 1 = ((i + 1 : Nat) : Int) := by omega
      rw [e]
      refine ih (i + 1) h4 _ (by omega) (by simp [wnum_len]; omega) (c3.tr c4) w4 fun h5 c5 w5 => kq h5 c5 ?_
      rw [longs, ← List.append_assoc]; exact w5
  exact loop m 0 h L (Nat.zero_add _) hL cs.rf cw k
theorem v_tags {L : List Int} {sc rows P S : Int} {m : Nat} (hS : h.1 = fx_S0 a pp dd) (q : pd pp dd) (c : cP h pp g w t f) (cw : cW h (L, [])) (hb : h.2.1 1 2 = b) (hm : b = 0 ∨ b = 1) (hsc : zR sc) (hr : zR rows) (hm4 : m ≤ 24) (hP : zR P) (hSs : zR S) (hL : L.length + 114 ≤ 2000) (k : ∀ h2, cs h h2 → cW h2 (L ++ wtags b sc g w t rows m P S, []) → Q none h2) : fx_V l M_FP_writeTags (0, 0) Q 0 0 97 [some (.ref 0), some (.int (zI sc)), some (.int (zI rows)), some (.int (zI (m : Nat))), some (.int (zI P)), some (.int (zI S)), none] [.int (zI (if sc = 3 then 1 else 0))] h := by
  have hpk := c.2.2.2.2.2.2.2
  have hw1 := hpk.2.1
  have hw2 := hpk.2.2.1
  have ht1 := hpk.2.2.2.1
  have ht2 := hpk.2.2.2.2.1
  have hg := hpk.1
  have h122 : fx_V l M_FP_writeTags (0, 0) Q 0 0 122 [some (.ref 0), some (.int (zI sc)), some (.int (zI rows)), some (.int (zI (m : Nat))), some (.int (zI P)), some (.int (zI S)), some (.int (zI (if sc = 3 then 1 else 0)))] [.int (zI (if sc = 3 then 9 else 8)), .int (zI 2), .ref 1] h := by
    refine w_FP_writeTags_122 hS (pA hS q) (pB hS q) (dA hS q) (dB hS q) ?_
    refine m_num 2 hS cw hb hm (by split <;> omega) (by omega) (by omega) fun h1 c1 w1 => ⟨rfl, c1.1.1, ?_⟩
    rw [(c.cs c1).2.2.2.2.1]
    refine m_shortTag (c1.1.1.trans hS) q w1 (c1.2.trans hb) hm (by omega) (by omega) (by simp [wnum_len]; omega) fun h2 d2 w2 => ⟨rfl, d2.1.1, ?_⟩
    have c2 := c1.tr d2
    rw [(c.cs c2).2.2.2.2.2.1]
    refine m_shortTag (c2.1.1.trans hS) q w2 (c2.2.trans hb) hm (by omega) (by omega) (by simp [wnum_len, stg_len]; omega) fun h3 d3 w3 => ⟨rfl, d3.1.1, ?_⟩
    have c3 := c2.tr d3
    rw [(c.cs c3).2.2.2.1]
    have hS3 := c3.1.1.trans hS
    have h173 : fx_V l M_FP_writeTags (0, 0) Q 0 0 173 [some (.ref 0), some (.int (zI sc)), some (.int (zI rows)), some (.int (zI (m : Nat))), some (.int (zI P)), some (.int (zI S)), some (.int (zI (if sc = 3 then 1 else 0)))] [.int (zI (if g = 0 then 1 else 8)), .int (zI 258), .ref 0] h3 := by
      refine w_FP_writeTags_173 hS3 (pA hS3 q) (pB hS3 q) (dA hS3 q) (dB hS3 q) ?_
      refine m_shortTag hS3 q w3 (c3.2.trans hb) hm (by omega) (by split <;> omega) (by simp [wnum_len, stg_len]; omega) fun h4 d4 w4 => ⟨rfl, d4.1.1, ?_⟩
      have c4 := c3.tr d4
      refine m_shortTag (c4.1.1.trans hS) q w4 (c4.2.trans hb) hm (by omega) hsc (by simp [wnum_len, stg_len]; omega) fun h5 d5 w5 => ⟨rfl, d5.1.1, ?_⟩
      have c5 := c4.tr d5
      have hS5 := c5.1.1.trans hS
      rw [(c.cs c5).2.2.2.1]
      have h203 : fx_V l M_FP_writeTags (0, 0) Q 0 0 203 [some (.ref 0), none, some (.int (zI rows)), some (.int (zI (m : Nat))), some (.int (zI P)), some (.int (zI S)), some (.int (zI (if sc = 3 then 1 else 0)))] [.int (zI (if g = 0 then 0 else 1)), .int (zI 262), .ref 0] h5 := by
        refine w_FP_writeTags_203 hS5 (pA hS5 q) (pB hS5 q) (dA hS5 q) (dB hS5 q) ?_
        refine m_shortTag hS5 q w5 (c5.2.trans hb) hm (by omega) (by split <;> omega) (by simp [wnum_len, stg_len]; omega) fun h6 d6 w6 => ⟨rfl, d6.1.1, ?_⟩
        have c6 := c5.tr d6
        refine m_longTag (c6.1.1.trans hS) q w6 (c6.2.trans hb) hm (by omega) (by omega) hP (by simp [wnum_len, stg_len]; omega) fun h7 d7 w7 => ⟨rfl, d7.1.1, ?_⟩
        have c7 := c6.tr d7
        refine m_shortTag (c7.1.1.trans hS) q w7 (c7.2.trans hb) hm (by omega) hr (by simp [wnum_len, stg_len, ltg_len]; omega) fun h8 d8 w8 => ⟨rfl, d8.1.1, ?_⟩
        have c8 := c7.tr d8
        refine m_longTag (c8.1.1.trans hS) q w8 (c8.2.trans hb) hm (by omega) (by omega) hSs (by simp [wnum_len, stg_len, ltg_len]; omega) fun h9 d9 w9 => ⟨rfl, d9.1.1, ?_⟩
        have c9 := c8.tr d9
        refine ⟨by split <;> omega, fun z => ?_, fun z => ?_⟩
        · have hs3 : ¬ sc = 3 := fun z3 => by rw [if_pos z3] at z; omega
          refine m_num 4 (c9.1.1.trans hS) w9 (c9.2.trans hb) hm (by omega) (by omega) (by simp [wnum_len, stg_len, ltg_len]; omega) fun h10 d10 w10 => ⟨rfl, d10.1.1, k h10 (c9.tr d10) ?_⟩
          simp only [List.append_assoc] at w10
          unfold wtags
          rw [if_neg hs3, if_neg hs3, List.nil_append]
          rw [if_neg hs3] at w10
          exact w10
        · have hs3 : sc = 3 := by
            by_cases z3 : sc = 3
            · exact z3
            · rw [if_neg z3] at z; omega
          refine m_longTag (c9.1.1.trans hS) q w9 (c9.2.trans hb) hm (by omega) (by omega) (by omega) (by simp [wnum_len, stg_len, ltg_len]; omega) fun h10 d10 w10 => ⟨rfl, d10.1.1, ?_⟩
          have c10 := c9.tr d10
          have hS10 := c10.1.1.trans hS
          refine w_FP_writeTags_248 hS10 (pA hS10 q) (pB hS10 q) (dA hS10 q) (dB hS10 q) ?_
          refine m_num 4 hS10 w10 (c10.2.trans hb) hm (by omega) (by omega) (by simp [wnum_len, stg_len, ltg_len]; omega) fun h11 d11 w11 => ⟨rfl, d11.1.1, k h11 (c10.tr d11) ?_⟩
          simp only [List.append_assoc] at w11
          unfold wtags
          rw [if_pos hs3, if_pos hs3]
          rw [if_pos hs3] at w11
          exact w11
      refine ⟨by omega, fun z => ?_, fun z => ?_⟩
      · rw [if_pos z] at h203; exact h203
      · rw [if_neg z] at h203; exact h203
    refine ⟨by omega, fun z => ?_, fun z => ?_⟩
    · rw [if_pos z] at h173; exact h173
    · rw [if_neg z] at h173; exact h173
  refine w_FP_writeTags_97 hS (pA hS q) (pB hS q) (dA hS q) (dB hS q) ⟨by split <;> omega, fun z => ?_, fun z => ?_⟩
  · have hs3 : ¬ sc = 3 := fun z3 => by rw [if_pos z3] at z; omega
    rw [if_neg hs3, if_neg hs3] at h122
    rw [if_neg hs3]
    exact h122
  · have hs3 : sc = 3 := by
      by_cases z3 : sc = 3
      · exact z3
      · rw [if_neg z3] at z; omega
    rw [if_pos hs3, if_pos hs3] at h122
    rw [if_pos hs3]
    exact h122
theorem weven_R (L : List Int) : L.length ≤ (weven L).length ∧ (weven L).length ≤ L.length + 1 := by unfold weven; split <;> simp
theorem m_writeTags {L : List Int} {sc rows : Int} {m : Nat} {pl sz : Nat → Int} (hS : h.1 = fx_S0 a pp dd) (q : pd pp dd) (c : cP h pp g w t f) (cw : cW h (L, [])) (hb : h.2.1 1 2 = b) (hm : b = 0 ∨ b = 1) (hsc : zR sc) (hr : zR rows) (hm1 : 1 ≤ m) (hm4 : m ≤ 24) (hpl : ∀ i : Nat, i < m → h.2.2.1 25 i = pl i ∧ zR (pl i)) (hsz : ∀ i : Nat, i < m → h.2.2.1 26 i = sz i ∧ zR (sz i)) (h8 : 8 ≤ L.length) (hL : L.length + 8 * m + 1 + 114 ≤ 2000) (k : ∀ h2, cs h h2 → cW h2 (patJ b (weven (wbes b L pl sz m)).length 4 0 (weven (wbes b L pl sz m)) ++ wtags b sc g w t rows m (if m = 1 then pl 0 else L.length) (if m = 1 then sz 0 else L.length + 4 * m), []) → Q none h2) : fx_Mt l M_FP_writeTags (0, 0) [.ref 0, .int (zI sc), .int (zI rows), .int (zI (m : Nat))] h Q := by
  have h48 : ∀ (h3 : fx_H) (P S : Int), cs h h3 → cW h3 (wbes b L pl sz m, []) → P = (if m = 1 then pl 0 else L.length) → S = (if m = 1 then sz 0 else L.length + 4 * m) → fx_V l M_FP_writeTags (0, 0) Q 0 0 48 [some (.ref 0), some (.int (zI sc)), some (.int (zI rows)), some (.int (zI (m : Nat))), some (.int (zI P)), none, none] [.int (zI S)] h3 := by
    intro h3 P S c3 w3 hP hSv
    have hS3 := c3.1.1.trans hS
    have hlen := w3.len
    have hlb : (wbes b L pl sz m).length ≤ L.length + 8 * m ∧ L.length ≤ (wbes b L pl sz m).length := by
      unfold wbes; split
      · omega
      · simp [longs_len]; omega
    have hPz : zR P := by rw [hP]; split; exact (hpl 0 (by omega)).2; omega
    have hSz : zR S := by rw [hSv]; split; exact (hsz 0 (by omega)).2; omega
    have rest : ∀ (h5 : fx_H), cs h h5 → cW h5 (weven (wbes b L pl sz m), []) → fx_Mt l M_BY_changeNumber (0, 0) [.ref 1, .int (zI 4), .int (zI 4), .int (zI (h5.2.1 1 1))] h5 (fun v h1 => v = none ∧ h1.1 = h5.1 ∧ zR sc ∧ ((¬ sc = 3 → (fx_V l M_FP_writeTags (0, 0) Q 0 0 97 [some (.ref 0), some (.int (zI sc)), some (.int (zI rows)), some (.int (zI (m : Nat))), some (.int (zI P)), some (.int (zI S)), none] [.int (zI 0)] h1)) ∧ (sc = 3 → (fx_V l M_FP_writeTags (0, 0) Q 0 0 97 [some (.ref 0), some (.int (zI sc)), some (.int (zI rows)), some (.int (zI (m : Nat))), some (.int (zI P)), some (.int (zI S)), none] [.int (zI 1)] h1)))) := by
      intro h5 c5 w5
      have hl5 := w5.len
      have hev := weven_R (wbes b L pl sz m)
      have b5 : h5.2.1 1 2 = b := c5.2.trans hb
      refine m_changeNumber (c5.1.1.trans hS) w5 (by rw [b5]; exact hm) (by omega) (by omega) (by omega) fun h6 c6 w6 => ⟨rfl, c6.1.1, hsc, ?_⟩
      rw [b5, hl5] at w6
      have c56 := c5.tr c6
      have := v_tags (l := l) (Q := Q) (sc := sc) (rows := rows) (P := P) (S := S) (m := m) (c56.1.1.trans hS) q (c.cs c56) w6 (c56.2.trans hb) hm hsc hr hm4 hPz hSz (by rw [patJ_len]; omega) fun h7 c7 w7 => k h7 (c56.tr c7) (by rw [← hP, ← hSv]; exact w7)
      refine ⟨fun z => ?_, fun z => ?_⟩
      · rw [if_neg z] at this; exact this
      · rw [if_pos z] at this; exact this
    refine w_FP_writeTags_48 hS3 (pA hS3 q) (pB hS3 q) (dA hS3 q) (dB hS3 q) ⟨by omega, by omega, by omega, fun z => ?_, fun z => ?_⟩
    · exact rest h3 c3 (by unfold weven; rw [if_neg (by omega)]; exact w3)
    · refine m_append hS3 w3 (by omega) fun h4 c4 w4 => ⟨rfl, c4.1.1, ?_⟩
      have hS4 := c4.1.1.trans hS3
      refine w_FP_writeTags_71 hS4 (pA hS4 q) (pB hS4 q) (dA hS4 q) (dB hS4 q) (rest h4 (c3.tr c4) ?_)
      unfold weven; rw [if_pos (by omega)]; exact w4
  refine e_FP_writeTags hS (pA hS q) (pB hS q) (dA hS q) (dB hS q) ⟨by omega, fun z => ?_, fun z => ?_⟩
  · refine m_appendLongs_25 hS q cw hb hm hpl hm4 (by omega) fun h3 c3 w3 => ⟨_, rfl, c3.1.1, ?_⟩
    have hS3 := c3.1.1.trans hS
    refine w_FP_writeTags_23 hS3 (pA hS3 q) (pB hS3 q) (dA hS3 q) (dB hS3 q) ⟨by omega, fun _ => ?_, fun z2 => absurd z2 z⟩
    refine m_appendLongs_26 (v := sz) hS3 q w3 (c3.2.trans hb) hm (fun i hi => by rw [c3.1.2.2.1 26 i (by omega)]; exact hsz i hi) hm4 (by simp [longs_len]; omega) fun h4 c4 w4 => ⟨_, rfl, c4.1.1, ?_⟩
    refine h48 h4 _ _ (c3.tr c4) (by unfold wbes; rw [if_neg (by omega)]; exact w4) (by rw [if_neg (by omega)]) ?_
    rw [if_neg (by omega), List.length_append, longs_len]; omega
  · refine w_FP_writeTags_23 hS (pA hS q) (pB hS q) (dA hS q) (dB hS q) ⟨by omega, fun z2 => absurd z z2, fun _ => ?_⟩
    exact h48 h _ _ cs.rf (by unfold wbes; rw [if_pos (by omega)]; exact cw) (by rw [if_pos (by omega)]; exact (hpl 0 (by omega)).1) (by rw [if_pos (by omega)]; exact (hsz 0 (by omega)).1)
end FW
