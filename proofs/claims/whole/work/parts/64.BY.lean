/-! Bytes: its contracts as a writer -/
def cW (h : fx_H) (s : WS) : Prop := h.2.1 1 1 = s.1.length + (if s.2 = [] then 0 else 1) ∧ h.2.1 1 3 = (if s.2 = [] then 0 else 8 - (s.2.length : Int)) ∧ (∀ i : Nat, i < s.1.length → h.2.2.1 2 i = s.1.getD i 0) ∧ (s.2 ≠ [] → h.2.2.1 2 s.1.length = bv s.2 * 2 ^ (8 - s.2.length))
/-- only the file has changed, and its order of bytes not -/
def cs (h h2 : fx_H) : Prop := sm (fun j => j = 1 ∨ j = 2) h h2 ∧ h2.2.1 1 2 = h.2.1 1 2
theorem cs.rf {h : fx_H} : cs h h := ⟨sm.rf, rfl⟩
theorem cs.tr {h h2 h3 : fx_H} (a : cs h h2) (b : cs h2 h3) : cs h h3 := ⟨a.1.tr b.1, b.2.trans a.2⟩
section BY
variable {l : Launch} {Q : Option Value → fx_H → Prop} {h : fx_H} {a : Nat → Nat} {pp dd : Nat}
def cB (h : fx_H) (x : Int) : Int := if 0 ≤ x ∧ x < h.2.1 1 1 then h.2.2.1 2 x.toNat else 0
theorem m_byteAt {x : Int} (hS : h.1 = fx_S0 a pp dd) (hu : h.2.1 1 1 ≤ 2000) (hu0 : 0 ≤ h.2.1 1 1) (hx : zR x) (k : Q (some (.int (zI (cB h x)))) h) : fx_Mt l M_BY_byteAt (0, 0) [.ref 1, .int (zI x)] h Q := by
  unfold cB at k
  refine e_BY_byteAt hS ⟨hx, fun z => ?_, fun z => ⟨by omega, fun z2 => ?_, fun z2 => ⟨by omega, by omega, ?_⟩⟩⟩
  · rw [if_neg (by omega)] at k; exact k
  · rw [if_neg (by omega)] at k; exact k
  · rw [if_pos (by omega)] at k; exact k
theorem m_change {x b : Int} (hS : h.1 = fx_S0 a pp dd) (hu : h.2.1 1 1 ≤ 2000) (hu0 : 0 ≤ h.2.1 1 1) (hx : 0 ≤ x) (hx2 : x < h.2.1 1 1) (k : Q none (fx_uA h 2 x.toNat b)) : fx_Mt l M_BY_change (0, 0) [.ref 1, .int (zI x), .int (zI b)] h Q :=
  e_BY_change hS ⟨by omega, fun z => by omega, fun z => ⟨by omega, fun z2 => by omega, fun z2 => ⟨by omega, by omega, k⟩⟩⟩
theorem getD_snoc {L : List Int} {b : Int} {i : Nat} : (L ++ [b]).getD i 0 = if i = L.length then b else L.getD i 0 := by
  simp only [List.getD_eq_getElem?_getD]
  by_cases h1 : i < L.length
  · rw [List.getElem?_append_left h1, if_neg (by omega)]
  · by_cases h2 : i = L.length
    · subst h2; simp
    · rw [if_neg h2, List.getElem?_eq_none (by simp; omega), List.getElem?_eq_none (by omega)]
theorem m_append {L : List Int} {b : Int} (hS : h.1 = fx_S0 a pp dd) (cw : cW h (L, [])) (hL : L.length < 2000) (k : ∀ h2, cs h h2 → cW h2 (L ++ [b], []) → Q none h2) : fx_Mt l M_BY_append (0, 0) [.ref 1, .int (zI b)] h Q := by
  obtain ⟨c1, c2, c3, -⟩ := cw
  have c1' : h.2.1 1 1 = L.length := by rw [c1]; simp
  have c2' : h.2.1 1 3 = 0 := by rw [c2]; simp
  refine e_BY_append hS ⟨by omega, fun z => by omega, fun z => ⟨by omega, by omega, k _ ⟨(sm.uA (Or.inr rfl)).tr (sm.uF (Or.inl rfl)), rfl⟩ ⟨?_, ?_, fun i hi => ?_, fun z => absurd rfl z⟩⟩⟩
  · rw [uF_s, c1']; simp
  · rw [uF_n _ _ (by omega)]; show h.2.1 1 3 = _; rw [c2']; simp
  · show (fx_uA h 2 (h.2.1 1 1).toNat b).2.2.1 2 i = _
    rw [c1', Int.toNat_natCast]
    show _ = (L ++ [b]).getD i 0
    rw [getD_snoc]
    by_cases hi2 : i = L.length
    · subst hi2; rw [uA_s, if_pos rfl]
    · rw [uA_n _ _ (fun z => hi2 z.2), if_neg hi2]
      refine c3 i ?_
      simp at hi
      show i < L.length
      omega
/-- one bit more -/
theorem m_bit_step {s : WS} {b : Int} (cw : cW h s) (ok : isW s) (hb : b = 0 ∨ b = 1) (hne : s.2 ≠ []) :
    cW (fx_uA (fx_uF h 1 3 (h.2.1 1 3 - 1)) 2 (h.2.1 1 1 - 1).toNat ((2 * bv s.2 + b) * 2 ^ (7 - s.2.length))) (wbit s b) := by
  obtain ⟨L, w⟩ := s
  obtain ⟨c1, c2, c3, c4⟩ := cw
  simp only at *
  have c1' : h.2.1 1 1 = L.length + 1 := by rw [c1, if_neg hne]
  have c2' : h.2.1 1 3 = 8 - (w.length : Int) := by rw [c2, if_neg hne]
  have hw8 : w.length < 8 := ok.2.2
  have e : (h.2.1 1 1 - 1).toNat = L.length := by omega
  rw [e]
  unfold wbit
  by_cases h7 : w.length = 7
  · rw [if_pos h7]
    refine ⟨?_, ?_, fun i hi => ?_, fun z => absurd rfl z⟩
    · show h.2.1 1 1 = _; rw [c1']; simp
    · show (fx_uF h 1 3 (h.2.1 1 3 - 1)).2.1 1 3 = _; rw [uF_s, c2', h7]; simp
    · show _ = (L ++ [bv (w ++ [b])]).getD i 0
      rw [getD_snoc]
      by_cases hi2 : i = L.length
      · subst hi2; rw [uA_s, if_pos rfl, bv_snoc, h7]; simp
      · rw [uA_n _ _ (fun z => hi2 z.2), if_neg hi2]
        refine c3 i ?_
        simp at hi; omega
  · rw [if_neg h7]
    refine ⟨?_, ?_, fun i hi => ?_, fun _ => ?_⟩
    · show h.2.1 1 1 = _; rw [c1', if_neg (by simp)]
    · show (fx_uF h 1 3 (h.2.1 1 3 - 1)).2.1 1 3 = _; rw [uF_s, c2', if_neg (by simp)]; simp; omega
    · have hi2 : i < L.length := hi
      rw [uA_n _ _ (fun z => by omega)]
      exact c3 i hi
    · show (fx_uA _ 2 L.length _).2.2.1 2 L.length = _
      rw [uA_s, bv_snoc]
      show _ = (2 * bv w + b) * 2 ^ (8 - (w ++ [b]).length)
      rw [List.length_append]
      congr 2
      show 7 - w.length = 8 - (w.length + 1)
      omega
theorem m_appendBits {s : WS} {u n : Int} (hS : h.1 = fx_S0 a pp dd) (cw : cW h s) (ok : isW s) (hu : zR u) (hn : 0 ≤ n) (hn2 : n ≤ 31) (cap : tb s + n ≤ 16000) (k : ∀ h2, cs h h2 → cW h2 (wbits s u n.toNat) → Q none h2) : fx_Mt l M_BY_appendBits (0, 0) [.ref 1, .int (zI u), .int (zI n)] h Q := by
  refine e_BY_appendBits hS ?_
  have loop : ∀ (m : Nat) (h3 : fx_H) (s : WS), m ≤ 31 → tb s + m ≤ 16000 → isW s → cW h3 s → h3.1 = h.1 → (∀ h2, cs h3 h2 → cW h2 (wbits s u m) → Q none h2) →
      fx_V l M_BY_appendBits (0, 0) Q 0 0 4 [some (.ref 1), some (.int (zI u)), none, some (.int (zI ((m : Nat) - 1)))] [] h3 := by
    intro m
    induction m with
    | zero =>
      intro h3 s hm cap ok cw e3 k
      exact w_BY_appendBits_4 (e3.trans hS) ⟨by omega, fun _ => k h3 cs.rf cw, fun z => by omega⟩
    | succ m ih =>
      intro h3 s hm cap ok cw e3 k
      have hS3 := e3.trans hS
      have hb : u / 2 ^ m % 2 = 0 ∨ u / 2 ^ m % 2 = 1 := by omega
      have em : ((m + 1 : Nat) : Int) - 1 = m := by omega
      have em2 : ((m : Nat) : Int) + -1 = (m : Int) - 1 := by omega
      have ht := tb_bit ok.2.2 (u / 2 ^ m % 2)
      have hlast : ∀ (h5 : fx_H) (s5 : WS), h5.1 = h3.1 → cs h3 h5 → s5.2 ≠ [] ∧ s5.1.length + 1 ≤ 2000 → True := fun _ _ _ _ _ => trivial
      have hw8 : s.2.length < 8 := ok.2.2
      rw [em]
      by_cases hne : s.2 = []
      · -- a byte is begun
        obtain ⟨L, w⟩ := s
        simp only at hne
        subst hne
        have hL : L.length < 2000 := by unfold tb at cap; simp at cap; omega
        refine w_BY_appendBits_4 hS3 ⟨by omega, fun z => by omega, fun _ => ⟨?_, fun z => absurd (by rw [cw.2.1]; simp) z, fun _ => ?_⟩⟩
        · rw [cw.2.1]; simp; omega
        refine m_append hS3 cw hL fun h4 c4 w4 => ⟨rfl, c4.1.1, ?_⟩
        have u4 : h4.2.1 1 1 = L.length + 1 := by rw [w4.1]; simp
        have hS4 : h4.1 = fx_S0 a pp dd := c4.1.1.trans hS3
        have b4 : h4.2.2.1 2 L.length = 0 := by
          have := w4.2.2.1 L.length (by simp)
          rw [this]; show (L ++ [0]).getD L.length 0 = 0; rw [getD_snoc, if_pos rfl]
        have cb : cB (fx_uF (fx_uF h4 1 3 8) 1 3 7) (h4.2.1 1 1 - 1) = 0 := by
          unfold cB
          show (if 0 ≤ h4.2.1 1 1 - 1 ∧ h4.2.1 1 1 - 1 < h4.2.1 1 1 then h4.2.2.1 2 (h4.2.1 1 1 - 1).toNat else 0) = 0
          rw [if_pos (by omega), u4]
          have : ((L.length : Int) + 1 - 1).toNat = L.length := by omega
          rw [this, b4]
        refine m_byteAt (h := fx_uF (fx_uF h4 1 3 8) 1 3 7) hS4 (by show h4.2.1 1 1 ≤ 2000; omega) (by show 0 ≤ h4.2.1 1 1; omega) (by omega) ?_
        rw [cb]
        have e7 : ((fx_uF (fx_uF h4 1 3 8) 1 3 7).2.1 1 3).toNat = 7 := by rw [uF_s]; rfl
        refine ⟨0, rfl, rfl, by omega, by omega, ?_⟩
        rw [e7, Int.toNat_natCast]
        refine ⟨by rw [uF_s]; omega, by omega, by omega, by omega, by omega, ?_⟩
        rw [zor_0 (by omega)]
        refine m_change (h := fx_uF (fx_uF h4 1 3 8) 1 3 7) hS4 (by show h4.2.1 1 1 ≤ 2000; omega) (by show 0 ≤ h4.2.1 1 1; omega) (by omega) (by show h4.2.1 1 1 - 1 < h4.2.1 1 1; omega) ⟨rfl, rfl, ?_⟩
        rw [em2]
        have c5 : cs h3 (fx_uA (fx_uF (fx_uF h4 1 3 8) 1 3 7) 2 (h4.2.1 1 1 - 1).toNat (u / 2 ^ m % 2 * 2 ^ 7)) := c4.tr ⟨((sm.uF (Or.inl rfl)).tr (sm.uF (Or.inl rfl))).tr (sm.uA (Or.inr rfl)), rfl⟩
        have w5 : cW (fx_uA (fx_uF (fx_uF h4 1 3 8) 1 3 7) 2 (h4.2.1 1 1 - 1).toNat (u / 2 ^ m % 2 * 2 ^ 7)) (wbit (L, []) (u / 2 ^ m % 2)) := by
          have e : (h4.2.1 1 1 - 1).toNat = L.length := by omega
          rw [e]
          unfold wbit
          rw [if_neg (by simp)]
          refine ⟨?_, ?_, fun i hi => ?_, fun _ => ?_⟩
          · show h4.2.1 1 1 = _; rw [u4]; simp
          · show (7 : Int) = _; simp
          · have hi2 : i < L.length := hi
            rw [uA_n _ _ (fun z => by omega)]
            show h4.2.2.1 2 i = L.getD i 0
            rw [w4.2.2.1 i (by simp; omega)]
            show (L ++ [0]).getD i 0 = _
            rw [getD_snoc, if_neg (by omega)]
          · show (fx_uA _ 2 L.length _).2.2.1 2 L.length = _
            rw [uA_s]
            simp [bv]
        refine ih _ (wbit (L, []) (u / 2 ^ m % 2)) (by omega) (by rw [ht]; omega) (isW_bit ok hb) w5 (c5.1.1.trans e3) fun h2 cc ww => k h2 (c5.tr cc) ?_
        exact ww
      · have u3 : h3.2.1 1 1 = s.1.length + 1 := by rw [cw.1, if_neg hne]
        have f3 : h3.2.1 1 3 = 8 - (s.2.length : Int) := by rw [cw.2.1, if_neg hne]
        have hpos : 0 < s.2.length := List.length_pos_iff.mpr hne
        have hL : s.1.length + 1 ≤ 2000 := by unfold tb at cap; omega
        refine w_BY_appendBits_4 hS3 ⟨by omega, fun z => by omega, fun _ => ⟨by omega, fun _ => ?_, fun z => by omega⟩⟩
        have cb : cB (fx_uF h3 1 3 (h3.2.1 1 3 - 1)) (h3.2.1 1 1 - 1) = bv s.2 * 2 ^ (8 - s.2.length) := by
          unfold cB
          show (if 0 ≤ h3.2.1 1 1 - 1 ∧ h3.2.1 1 1 - 1 < h3.2.1 1 1 then h3.2.2.1 2 (h3.2.1 1 1 - 1).toNat else 0) = _
          rw [if_pos (by omega), u3]
          have : ((s.1.length : Int) + 1 - 1).toNat = s.1.length := by omega
          rw [this]
          exact cw.2.2.2 hne
        have hbv := bv_R s.2 ok.2.1
        have hp8 : bv s.2 * 2 ^ (8 - s.2.length) < 256 := by
          have h1 : (2 : Int) ^ s.2.length * 2 ^ (8 - s.2.length) = 256 := by rw [← Int.pow_add]; rw [show s.2.length + (8 - s.2.length) = 8 by omega]; rfl
          have h2 := two_pow_pos (8 - s.2.length)
          have h3 : bv s.2 * 2 ^ (8 - s.2.length) < 2 ^ s.2.length * 2 ^ (8 - s.2.length) := Int.mul_lt_mul_of_pos_right hbv.2 (by omega)
          omega
        have hp80 : 0 ≤ bv s.2 * 2 ^ (8 - s.2.length) := Int.mul_nonneg hbv.1 (by have := two_pow_pos (8 - s.2.length); omega)
        refine m_byteAt (h := fx_uF h3 1 3 (h3.2.1 1 3 - 1)) hS3 (by show h3.2.1 1 1 ≤ 2000; omega) (by show 0 ≤ h3.2.1 1 1; omega) (by omega) ?_
        rw [cb]
        have ef : ((fx_uF h3 1 3 (h3.2.1 1 3 - 1)).2.1 1 3) = 7 - (s.2.length : Int) := by rw [uF_s, f3]; omega
        have ef2 : ((fx_uF h3 1 3 (h3.2.1 1 3 - 1)).2.1 1 3).toNat = 7 - s.2.length := by rw [ef]; omega
        have hq7 := two_pow_pos (7 - s.2.length)
        have hq72 : (2 : Int) ^ (7 - s.2.length) ≤ 128 := by
          have h1 : (2 : Int) ^ (7 - s.2.length) * 2 ^ s.2.length = 128 := by rw [← Int.pow_add]; rw [show 7 - s.2.length + s.2.length = 7 by omega]; rfl
          have h2 := two_pow_pos s.2.length
          have h3 : (2 : Int) ^ (7 - s.2.length) * 1 ≤ 2 ^ (7 - s.2.length) * 2 ^ s.2.length := Int.mul_le_mul_of_nonneg_left (by omega) (by omega)
          omega
        have hbb : 0 ≤ u / 2 ^ m % 2 * 2 ^ (7 - s.2.length) ∧ u / 2 ^ m % 2 * 2 ^ (7 - s.2.length) < 2147483648 := by
          rcases hb with hb | hb <;> rw [hb] <;> omega
        refine ⟨_, rfl, rfl, by omega, by omega, ?_⟩
        rw [ef2, Int.toNat_natCast]
        refine ⟨by rw [ef]; omega, hp80, by omega, hbb.1, hbb.2, ?_⟩
        have hz : zor (bv s.2 * 2 ^ (8 - s.2.length)) (u / 2 ^ m % 2 * 2 ^ (7 - s.2.length)) = (2 * bv s.2 + u / 2 ^ m % 2) * 2 ^ (7 - s.2.length) := by
          rw [show 8 - s.2.length = (7 - s.2.length) + 1 by omega]
          exact zor_sh hbv.1 hb
        rw [hz]
        refine m_change (h := fx_uF h3 1 3 (h3.2.1 1 3 - 1)) hS3 (by show h3.2.1 1 1 ≤ 2000; omega) (by show 0 ≤ h3.2.1 1 1; omega) (by omega) (by show h3.2.1 1 1 - 1 < h3.2.1 1 1; omega) ⟨rfl, rfl, ?_⟩
        rw [em2]
        have c5 : cs h3 (fx_uA (fx_uF h3 1 3 (h3.2.1 1 3 - 1)) 2 (h3.2.1 1 1 - 1).toNat ((2 * bv s.2 + u / 2 ^ m % 2) * 2 ^ (7 - s.2.length))) := ⟨(sm.uF (Or.inl rfl)).tr (sm.uA (Or.inr rfl)), rfl⟩
        exact ih _ (wbit s (u / 2 ^ m % 2)) (by omega) (by rw [ht]; omega) (isW_bit ok hb) (m_bit_step cw ok hb hne) (c5.1.1.trans e3) fun h2 cc ww => k h2 (c5.tr cc) ww
  have e : n - 1 = ((n.toNat : Nat) : Int) - 1 := by omega
  rw [e]
  exact loop n.toNat h s (by omega) (by omega) ok cw rfl k
end BY
