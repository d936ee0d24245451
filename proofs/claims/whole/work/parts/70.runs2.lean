/-! RUNS in writing: the strip, class and reference -/
/-- only file and scratch rows have changed -/
def ck (h h2 : fx_H) : Prop := sm (fun j => j = 1 ∨ j = 2 ∨ (14 ≤ j ∧ j ≤ 22)) h h2 ∧ h2.2.1 1 2 = h.2.1 1 2
theorem ck.rf {h : fx_H} : ck h h := ⟨sm.rf, rfl⟩
theorem ck.tr {h h2 h3 : fx_H} (a : ck h h2) (b : ck h2 h3) : ck h h3 := ⟨a.1.tr b.1, b.2.trans a.2⟩
theorem cs.ck {h h2 : fx_H} (a : cs h h2) : ck h h2 := ⟨a.1.mono fun q z => by omega, a.2⟩
theorem ck.uA {h : fx_H} {q k : Nat} {x : Int} (hq : 14 ≤ q ∧ q ≤ 22) : ck h (fx_uA h q k x) := ⟨sm.uA (Or.inr (Or.inr hq)), rfl⟩
theorem ck.uF {h : fx_H} {q k : Nat} {x : Int} (hq : 14 ≤ q ∧ q ≤ 22) : ck h (fx_uF h q k x) := ⟨sm.uF (Or.inr (Or.inr hq)), uF_n _ _ (by omega)⟩
theorem cP.ck {h h2 : fx_H} {p : Nat} {g w t : Int} {f : Int → Int → Int} (c : cP h p g w t f) (a : ck h h2) : cP h2 p g w t f := c.sm a.1 (by have := c.2.2.1; omega) (by have := c.2.2.1; omega)
theorem cW.uA {h : fx_H} {s : WS} {q k : Nat} {x : Int} (c : cW h s) (hq : q ≠ 2) : cW (fx_uA h q k x) s := by
  obtain ⟨c1, c2, c3, c4⟩ := c
  exact ⟨c1, c2, fun i hi => by rw [uA_n _ _ (by omega)]; exact c3 i hi, fun z => by rw [uA_n _ _ (by omega)]; exact c4 z⟩
theorem cW.uF {h : fx_H} {s : WS} {q k : Nat} {x : Int} (c : cW h s) (hq : q ≠ 1) : cW (fx_uF h q k x) s := by
  obtain ⟨c1, c2, c3, c4⟩ := c
  exact ⟨by rw [uF_n _ _ (by omega)]; exact c1, by rw [uF_n _ _ (by omega)]; exact c2, c3, c4⟩
section RV
variable {l : Launch} {Q : Option Value → fx_H → Prop} {h : fx_H} {a : Nat → Nat} {pp dd p : Nat} {g w t : Int} {f : Int → Int → Int}
theorem m_RUpack {x y : Int} {L : List Int} {n : Nat} (hS : h.1 = fx_S0 a pp dd) (c : cP h p g w t f) (cw : cW h (L, [])) (hx : 0 ≤ x) (hn : x + n = y) (hy : y ≤ t) (cap : L.length + n * (2 * (rbn g w).toNat) ≤ 2000) (k : ∀ h2, ck h h2 → cW h2 (L ++ runs g w f x n, []) → Q none h2) : fx_Mt l M_RU_pack (0, 0) [.ref 14, .ref p, .int (zI x), .int (zI y)] h Q := by
  obtain ⟨⟨a1, h1⟩, ⟨a2, h2⟩, -⟩ := id c.1
  have hrb := c.2.2.2.2.2.2.2.rb
  have hby := c.2.2.2.2.2.2.2.byte
  have ht4 : t ≤ 24 := c.2.2.2.2.2.2.2.2.2.2.2.1
  refine e_RU_pack hS h1 h2 (m_rowBytesP c ⟨_, rfl, rfl, by omega, ?_⟩)
  rw [if_neg (by omega)]
  have rows : ∀ (m : Nat) (x : Int) (h3 : fx_H) (L3 : List Int), 0 ≤ x → x + m = y → L3.length + m * (2 * (rbn g w).toNat) ≤ 2000 → ck h h3 → cW h3 (L3, []) → (∀ h2, ck h h2 → cW h2 (L3 ++ runs g w f x m, []) → Q none h2) →
      fx_V l M_RU_pack (0, 0) Q 0 0 17 [some (.ref 14), some (.ref p), none, some (.int (zI y)), some (.int (zI (rbn g w))), some (.int (zI x)), none] [] h3 := by
    intro m
    induction m with
    | zero =>
      intro x h3 L3 hx hm cap c3 cw k
      exact w_RU_pack_17 (c3.1.1.trans hS) (by rw [c3.1.1]; exact h1) (by rw [c3.1.1]; exact h2) ⟨by omega, by omega, fun _ => k h3 c3 (by simpa [runs] using cw), fun z => by omega⟩
    | succ m ih =>
      intro x h3 L3 hx hm cap c3 cw k
      refine w_RU_pack_17 (c3.1.1.trans hS) (by rw [c3.1.1]; exact h1) (by rw [c3.1.1]; exact h2) ⟨by omega, by omega, fun z => by omega, fun _ => ?_⟩
      rw [Nat.succ_mul] at cap
      have bytes : ∀ (j i : Nat) (h4 : fx_H), i + j = (rbn g w).toNat → ck h h4 → cW h4 (L3, []) → (∀ i2 : Int, 0 ≤ i2 → i2 < i → h4.2.2.1 15 i2.toNat = rbyte g f x i2) →
          fx_V l M_RU_pack (0, 0) Q 0 0 26 [some (.ref 14), some (.ref p), none, some (.int (zI y)), some (.int (zI (rbn g w))), some (.int (zI x)), some (.int (zI (i : Nat)))] [] h4 := by
        intro j
        induction j with
        | zero =>
          intro i h4 hi c4 w4 r4
          refine w_RU_pack_26 (c4.1.1.trans hS) (by rw [c4.1.1]; exact h1) (by rw [c4.1.1]; exact h2) ⟨by omega, by omega, fun _ => ?_, fun z => by omega⟩
          refine m_packRow (r := fun k => rbyte g f x k) (c4.1.1.trans hS) (fun i2 h5 h6 => r4 i2 h5 (by omega)) (fun i2 => hby x i2) (by omega) (by omega) w4 (by omega) fun h5 c5 w5 => ⟨rfl, c5.1.1, ?_⟩
          have el := encR_len (fun k => rbyte g f x k) (rbn g w) _ 0 (Nat.le_refl _)
          rw [Int.sub_zero] at el
          exact ih (x + 1) h5 _ (by omega) (by omega) (by rw [List.length_append]; omega) (c4.tr c5.ck) w5 fun h6 c6 w6 => k h6 c6 (by rw [runs]; simpa using w6)
        | succ j ihj =>
          intro i h4 hi c4 w4 r4
          refine w_RU_pack_26 (c4.1.1.trans hS) (by rw [c4.1.1]; exact h1) (by rw [c4.1.1]; exact h2) ⟨by omega, by omega, fun z => by omega, fun _ => ?_⟩
          refine m_rowByteP (c.ck c4) (by omega) (by omega) (by omega) ⟨_, rfl, rfl, by omega, by omega, ?_⟩
          have e : ((i : Nat) : Int) + 1 = ((i + 1 : Nat) : Int) := by omega
          rw [e, Int.toNat_natCast]
          refine ihj (i + 1) _ (by omega) (c4.tr (ck.uA (by omega))) (w4.uA (by omega)) fun i2 h5 h6 => ?_
          by_cases hi2 : i2 = i
          · subst hi2; rw [Int.toNat_natCast, uA_s]
          · rw [uA_n _ _ (by omega)]; exact r4 i2 h5 (by omega)
      exact bytes _ 0 h3 (Nat.zero_add _) c3 cw fun i2 h5 h6 => by omega
  exact rows n x h L hx hn cap ck.rf cw k
end RV
theorem sb_get (g w : Int) (f : Int → Int → Int) : ∀ (n : Nat) (x : Int) (k i : Nat), k < n → i < (rbn g w).toNat → (sb g w f x n).getD (k * (rbn g w).toNat + i) 0 = rbyte g f (x + k) i
  | 0, x, k, i, hk, _ => by omega
  | n + 1, x, 0, i, _, hi => by
    rw [sb, Nat.zero_mul, Nat.zero_add, List.getD_eq_getElem?_getD, List.getElem?_append_left (by rw [rowb_len]; exact hi)]
    unfold rowb
    rw [List.getElem?_map, List.getElem?_range' hi]
    simp
  | n + 1, x, k + 1, i, hk, hi => by
    have := sb_get g w f n (x + 1) k i (by omega) hi
    rw [sb, List.getD_eq_getElem?_getD, List.getElem?_append_right (by rw [rowb_len, Nat.succ_mul]; omega), rowb_len]
    rw [List.getD_eq_getElem?_getD] at this
    rw [show (k + 1) * (rbn g w).toNat + i - (rbn g w).toNat = k * (rbn g w).toNat + i by rw [Nat.succ_mul]; omega, this]
    congr 1
    omega
section RW
variable {l : Launch} {Q : Option Value → fx_H → Prop} {h : fx_H} {a : Nat → Nat} {pp dd : Nat} {g w t : Int} {f : Int → Int → Int} {r : Int → Int} {R n : Int}
def mR (h : fx_H) (r : Int → Int) (R n : Int) : Prop := ∀ i : Int, 0 ≤ i → i < n → h.2.2.1 38 (R + i).toNat = r i
theorem mR.mo {h h2 : fx_H} (c : mR h r R n) (m : mo oA oF h h2) : mR h2 r R n := fun i h1 h3 => by rw [m.1.2.2.1 38 _ (by omega)]; exact c i h1 h3
theorem v_outRow (hr : ∀ i, 0 ≤ r i ∧ r i < 256) (hR : 0 ≤ R) (hn : R + n ≤ 400) (hn2 : n ≤ 20) : ∀ (m : Nat) (b : Int) (h : fx_H) (L : List Int), h.1 = fx_S0 a pp dd → mR h r R n → (n - b).toNat ≤ m → 0 ≤ b → b ≤ n → mW h (L, []) → L.length + 2 * (n - b).toNat ≤ 2000 → (∀ h2, mo oA oF h h2 → mW h2 (L ++ encR r n b, []) → fx_V l M_MO_outRuns (0, 0) Q 0 0 7 [some (.ref 31), some (.int (zI n)), some (.int (zI (R + n))), none, none, none, none] [] h2) →
    fx_V l M_MO_outRuns (0, 0) Q 0 0 17 [some (.ref 31), some (.int (zI n)), some (.int (zI R)), some (.int (zI (R + b))), none, none, none] [] h := by
  intro m
  induction m with
  | zero =>
    intro b h L hS cr hm hb hbn mw cap k
    have k2 := k h mo.rf (by rw [encR_end (by omega)]; simpa using mw)
    exact w_MO_outRuns_17 hS ⟨by omega, by omega, fun _ => k2, fun z => by omega⟩
  | succ m ih =>
    intro b h L hS cr hm hb hbn mw cap k
    by_cases hend : n ≤ b
    · have k2 := k h mo.rf (by rw [encR_end (by omega)]; simpa using mw)
      exact w_MO_outRuns_17 hS ⟨by omega, by omega, fun _ => k2, fun z => by omega⟩
    · have hes := eS_R (r := r) (show b < n by omega)
      have rb := hr b
      have rb1 := hr (b + 1)
      have cb := cr b (by omega) (by omega)
      have esame : ∀ x : Int, 0 ≤ x → x < 256 → x % 256 = x := fun x h1 h2 => by omega
      have e1 : R + b + 1 = R + (b + 1) := by omega
      -- a run of equal bytes
      have same : 1 < eS r n b - b → fx_V l M_MO_outRuns (0, 0) Q 0 0 65 [some (.ref 31), some (.int (zI n)), some (.int (zI R)), some (.int (zI (R + b))), some (.int (zI (R + (b + 1)))), none, none] [] h := by
        intro hs
        rw [encR_same (by omega) hs] at k
        have fin : ∀ x4 : Int, x4 = R + eS r n b → fx_Mt l M_MO_out (0, 0) [.ref 31, .int (zI (257 - (x4 - (R + b))))] h (fun v h4 => v = none ∧ h4.1 = h.1 ∧ 0 ≤ R + b ∧ R + b < 400 ∧ fx_Mt l M_MO_out (0, 0) [.ref 31, .int (zI (h4.2.2.1 38 ((R + b).toNat)))] h4 (fun v h8 => v = none ∧ h8.1 = h4.1 ∧ (fx_V l M_MO_outRuns (0, 0) Q 0 0 17 [some (.ref 31), some (.int (zI n)), some (.int (zI R)), some (.int (zI x4)), none, none, none] [] h8))) := by
          intro x4 hx4
          subst hx4
          refine m_out hS mw (by omega) fun h4 m4 w4 => ⟨rfl, m4.S, by omega, by omega, ?_⟩
          rw [cr.mo m4 b (by omega) (by omega)]
          refine m_out (m4.S.trans hS) w4 (by simp; omega) fun h5 m5 w5 => ⟨rfl, m5.S, ?_⟩
          rw [esame (257 - (R + eS r n b - (R + b))) (by omega) (by omega), esame (r b) (by omega) (by omega), show R + eS r n b - (R + b) = eS r n b - b by omega] at w5
          exact ih (eS r n b) h5 _ (m5.S.trans (m4.S.trans hS)) (cr.mo (m4.tr m5)) (by omega) (by omega) (by omega) w5 (by simp; omega) fun h6 m6 w6 => k h6 ((m4.tr m5).tr m6) (by simpa using w6)
        have loop : ∀ (j : Nat) (e : Int), b + 1 ≤ e → e + j = n → fp_first (fun i => r i ≠ r b) e j = eS r n b → fx_V l M_MO_outRuns (0, 0) Q 0 0 65 [some (.ref 31), some (.int (zI n)), some (.int (zI R)), some (.int (zI (R + b))), some (.int (zI (R + e))), none, none] [] h := by
          intro j
          induction j with
          | zero =>
            intro e he hj hf
            exact w_MO_outRuns_65 hS ⟨by omega, by omega, fun _ => fin _ (by rw [← hf]; rfl), fun z => by omega⟩
          | succ j ihj =>
            intro e he hj hf
            have re := hr e
            unfold fp_first at hf
            refine w_MO_outRuns_65 hS ⟨by omega, by omega, fun z => by omega, fun _ => ⟨by omega, by omega, by omega, by omega, ?_⟩⟩
            rw [cr e (by omega) (by omega), cb]
            refine ⟨by omega, by omega, fun z => ?_, fun z => ?_⟩
            · rw [if_pos z] at hf
              exact fin _ (by rw [hf])
            · rw [if_neg (fun q => q z)] at hf
              rw [Int.add_assoc]
              exact ihj (e + 1) (by omega) (by omega) hf
        exact loop _ (b + 1) (Int.le_refl _) (by omega) rfl
      have diff : ¬ 1 < eS r n b - b → fx_V l M_MO_outRuns (0, 0) Q 0 0 120 [some (.ref 31), some (.int (zI n)), some (.int (zI R)), some (.int (zI (R + b))), some (.int (zI (R + (b + 1)))), none, none] [] h := by
        intro hs
        have hed := eD_gt (show b < n by omega) hs
        rw [encR_diff (by omega) hs] at k
        have hed1 : (if b + 1 = n then n else eD r (n - 1 - (b + 1)).toNat (b + 1)) = eD r (n - 1 - b).toNat b := by
          by_cases hz : b + 1 = n
          · rw [if_pos hz, show (n - 1 - b).toNat = 0 by omega, eD, hz]
          · rw [if_neg hz, show (n - 1 - b).toNat = (n - 1 - (b + 1)).toNat + 1 by omega, eD, if_neg]
            intro hh
            apply hs
            unfold eS
            rw [show (n - (b + 1)).toNat = (n - (b + 1) - 1).toNat + 1 by omega, fp_first, if_neg (fun z => z hh.symm)]
            have := (ff_R (q := fun j => r j ≠ r b) (n - (b + 1) - 1).toNat (b + 1 + 1)).1
            omega
        generalize eD r (n - 1 - b).toNat b = E at hed k hed1
        have fin : ∀ x4 : Int, x4 = R + E → fx_Mt l M_MO_out (0, 0) [.ref 31, .int (zI ((x4 - (R + b)) - 1))] h (fun v h4 => v = none ∧ h4.1 = h.1 ∧ (fx_V l M_MO_outRuns (0, 0) Q 0 0 176 [some (.ref 31), some (.int (zI n)), some (.int (zI R)), none, some (.int (zI x4)), none, some (.int (zI (R + b)))] [] h4)) := by
          intro x4 hx4
          subst hx4
          refine m_out hS mw (by omega) fun h4 m4 w4 => ⟨rfl, m4.S, ?_⟩
          rw [esame (R + E - (R + b) - 1) (by omega) (by omega), show R + E - (R + b) - 1 = E - b - 1 by omega] at w4
          have seg_loop : ∀ (j i : Nat) (h5 : fx_H) (L5 : List Int), i + j = (E - b).toNat → L5.length + j + 2 * (n - E).toNat ≤ 2000 → mo oA oF h h5 → mW h5 (L5, []) → (∀ h2, mo oA oF h h2 → mW h2 (L5 ++ (List.range' i j).map (fun j : Nat => r (b + j)) ++ encR r n E, []) → fx_V l M_MO_outRuns (0, 0) Q 0 0 7 [some (.ref 31), some (.int (zI n)), some (.int (zI (R + n))), none, none, none, none] [] h2) →
              fx_V l M_MO_outRuns (0, 0) Q 0 0 176 [some (.ref 31), some (.int (zI n)), some (.int (zI R)), none, some (.int (zI (R + E))), none, some (.int (zI (R + b + (i : Nat))))] [] h5 := by
            intro j
            induction j with
            | zero =>
              intro i h5 L5 hi cap5 c5 w5 k5
              refine w_MO_outRuns_176 (c5.S.trans hS) ⟨by omega, by omega, fun _ => ?_, fun z => by omega⟩
              exact ih E h5 L5 (c5.S.trans hS) (cr.mo c5) (by omega) (by omega) (by omega) w5 (by omega) fun h6 c6 w6 => k5 h6 (c5.tr c6) (by simpa using w6)
            | succ j ihj =>
              intro i h5 L5 hi cap5 c5 w5 k5
              have ri := hr (b + i)
              refine w_MO_outRuns_176 (c5.S.trans hS) ⟨by omega, by omega, fun z => by omega, fun _ => ⟨by omega, by omega, ?_⟩⟩
              have ec := cr.mo c5 (b + i) (by omega) (by omega)
              rw [← Int.add_assoc] at ec
              rw [ec]
              refine m_out (c5.S.trans hS) w5 (by omega) fun h6 c6 w6 => ⟨rfl, c6.S, ?_⟩
              rw [esame _ ri.1 ri.2] at w6
              have e9 : R + b + ((i : Nat) : Int) + 1 = R + b + ((i + 1 : Nat) : Int) := by omega
              rw [e9]
              refine ihj (i + 1) h6 _ (by omega) (by simp; omega) (c5.tr c6) w6 fun h7 c7 w7 => k5 h7 c7 ?_
              rw [List.range'_succ, List.map_cons]
              simpa using w7
          have := seg_loop (E - b).toNat 0 h4 _ (Nat.zero_add _) (by simp; omega) m4 w4 fun h7 c7 w7 => k h7 c7 (by simpa [seg] using w7)
          simpa using this
        have loop : ∀ (j : Nat) (e : Int), b + 1 ≤ e → e + j = n → (if e = n then n else eD r (n - 1 - e).toNat e) = E → fx_V l M_MO_outRuns (0, 0) Q 0 0 120 [some (.ref 31), some (.int (zI n)), some (.int (zI R)), some (.int (zI (R + b))), some (.int (zI (R + e))), none, none] [] h := by
          intro j
          induction j with
          | zero =>
            intro e he hj hf
            rw [if_pos (by omega)] at hf
            exact w_MO_outRuns_120 hS ⟨by omega, by omega, fun _ => fin _ (by omega), fun z => by omega⟩
          | succ j ihj =>
            intro e he hj hf
            have re := hr e
            have re1 := hr (e + 1)
            rw [if_neg (by omega)] at hf
            refine w_MO_outRuns_120 hS ⟨by omega, by omega, fun z => by omega, fun _ => ⟨by omega, fun z => ?_, fun z => ⟨by omega, by omega, by omega, by omega, ?_⟩⟩⟩
            · rw [show (n - 1 - e).toNat = 0 by omega, eD] at hf
              rw [Int.add_assoc]
              exact ihj (e + 1) (by omega) (by omega) (by rw [if_pos (by omega)]; omega)
            · have c1 := cr (e + 1) (by omega) (by omega)
              rw [← Int.add_assoc] at c1
              rw [cr e (by omega) (by omega), c1]
              rw [show (n - 1 - e).toNat = (n - 1 - (e + 1)).toNat + 1 by omega, eD] at hf
              refine ⟨by omega, by omega, fun z => ?_, fun z => ?_⟩
              · rw [if_pos z] at hf
                exact fin _ (by rw [hf])
              · rw [if_neg z] at hf
                rw [Int.add_assoc]
                exact ihj (e + 1) (by omega) (by omega) (by rw [if_neg (by omega)]; exact hf)
        exact loop _ (b + 1) (Int.le_refl _) (show b + 1 + ((n - (b + 1)).toNat : Nat) = n by omega) hed1
      refine w_MO_outRuns_17 hS ⟨by omega, by omega, fun z => by omega, fun _ => ⟨by omega, fun z => ?_, fun z => ⟨by omega, by omega, by omega, by omega, ?_⟩⟩⟩
      · rw [e1]
        exact diff (by omega)
      · have c1 := cr (b + 1) (by omega) (by omega)
        rw [e1, c1, cb]
        have es1 : eS r n b = if r (b + 1) ≠ r b then b + 1 else fp_first (fun j => r j ≠ r b) (b + 1 + 1) (n - (b + 1) - 1).toNat := by
          unfold eS
          rw [show (n - (b + 1)).toNat = (n - (b + 1) - 1).toNat + 1 by omega, fp_first]
        refine ⟨by omega, by omega, fun z2 => diff ?_, fun z2 => same ?_⟩
        · rw [es1, if_pos z2]; omega
        · rw [es1, if_neg (fun q => q z2)]
          have := (ff_R (q := fun j => r j ≠ r b) (n - (b + 1) - 1).toNat (b + 1 + 1)).1
          omega
theorem m_outRuns {x : Int} {n : Nat} {L : List Int} (hS : h.1 = fx_S0 a pp dd) (c : mP h g w t f) (hs : mS h (sb g w f x n)) (mw : mW h (L, [])) (hn : n * (rbn g w).toNat ≤ 400) (cap : L.length + n * (2 * (rbn g w).toNat) ≤ 2000) (k : ∀ h2, mo oA oF h h2 → mW h2 (L ++ runs g w f x n, []) → Q none h2) : fx_Mt l M_MO_outRuns (0, 0) [.ref 31] h Q := by
  have hrb := c.2.2.2.2.rb
  have hby := c.2.2.2.2.byte
  refine e_MO_outRuns hS (m_MOrowBytes c hS ⟨_, rfl, rfl, ?_⟩)
  have hcount : h.2.1 31 27 = ((n * (rbn g w).toNat : Nat) : Int) := by rw [hs.1, sb_len]
  have rows : ∀ (m i : Nat) (h3 : fx_H) (L3 : List Int), i + m = n → mo oA oF h h3 → mW h3 (L3, []) → L3.length + m * (2 * (rbn g w).toNat) ≤ 2000 → (∀ h2, mo oA oF h h2 → mW h2 (L3 ++ runs g w f (x + i) m, []) → Q none h2) →
      fx_V l M_MO_outRuns (0, 0) Q 0 0 7 [some (.ref 31), some (.int (zI (rbn g w))), some (.int (zI ((i * (rbn g w).toNat : Nat) : Int))), none, none, none, none] [] h3 := by
    intro m
    induction m with
    | zero =>
      intro i h3 L3 hi c3 w3 cap kq
      have hi2 : i = n := by omega
      subst hi2
      have e3 : h3.2.1 31 27 = h.2.1 31 27 := c3.2 27 (by omega)
      exact w_MO_outRuns_7 (c3.S.trans hS) ⟨by omega, by omega, fun _ => kq h3 c3 (by rw [runs, List.append_nil]; exact w3), fun z => by omega⟩
    | succ m ih =>
      intro i h3 L3 hi c3 w3 cap k
      have e3 : h3.2.1 31 27 = h.2.1 31 27 := c3.2 27 (by omega)
      have hle : (i + 1) * (rbn g w).toNat ≤ n * (rbn g w).toNat := Nat.mul_le_mul_right _ (by omega)
      rw [Nat.succ_mul] at hle
      rw [Nat.succ_mul] at cap
      refine w_MO_outRuns_7 (c3.S.trans hS) ⟨by omega, by omega, fun z => by omega, fun _ => ?_⟩
      have := v_outRow (l := l) (Q := Q) (a := a) (pp := pp) (dd := dd) (r := fun k => rbyte g f (x + i) k) (R := ((i * (rbn g w).toNat : Nat) : Int)) (n := rbn g w) (fun j => hby _ j) (by omega) (by omega) (by omega) _ 0 h3 L3 (c3.S.trans hS) (fun j h1 h2 => ?_) (Nat.le_refl _) (Int.le_refl _) (by omega) w3 (by rw [Int.sub_zero]; omega) fun h4 c4 w4 => ?_
      · rw [Int.add_zero] at this; exact this
      · rw [c3.1.2.2.1 38 _ (by omega)]
        have e5 : (((i * (rbn g w).toNat : Nat) : Int) + j).toNat = i * (rbn g w).toNat + j.toNat := by omega
        rw [e5, hs.2 _ (by rw [sb_len]; omega), sb_get g w f n x i j.toNat (by omega) (by omega)]
        show rbyte g f (x + i) _ = rbyte g f (x + i) _
        congr 1
        omega
      · have el := encR_len (fun k => rbyte g f (x + i) k) (rbn g w) _ 0 (Nat.le_refl _)
        rw [Int.sub_zero] at el
        have e6 : ((i * (rbn g w).toNat : Nat) : Int) + rbn g w = (((i + 1) * (rbn g w).toNat : Nat) : Int) := by rw [Nat.succ_mul]; omega
        rw [e6]
        refine ih (i + 1) h4 _ (by omega) (c3.tr c4) w4 (by rw [List.length_append]; omega) fun h5 c5 w5 => k h5 c5 ?_
        rw [runs]
        have e7 : x + ((i : Nat) : Int) + 1 = x + ((i + 1 : Nat) : Int) := by omega
        rw [e7]
        simpa using w5
  have := rows n 0 h L (Nat.zero_add _) mo.rf mw cap fun h2 c2 w2 => k h2 c2 (by simpa using w2)
  simpa using this
/-- NONE -/
theorem v_outNone {L : List Int} {B : List Int} (hB : ∀ b ∈ B, 0 ≤ b ∧ b < 256) (hS : h.1 = fx_S0 a pp dd) (hs : mS h B) (mw : mW h (L, [])) (hB4 : B.length ≤ 400) (cap : L.length + B.length ≤ 2000) (k : ∀ h2, mo oA oF h h2 → mW h2 (L ++ B, []) → Q none h2) : fx_V l M_MO_outStrip (0, 0) Q 0 0 46 [some (.ref 31), none, none, some (.int (zI 0))] [] h := by
  have loop : ∀ (m i : Nat) (h3 : fx_H), i + m = B.length → mo oA oF h h3 → mW h3 (L ++ B.take i, []) → fx_V l M_MO_outStrip (0, 0) Q 0 0 46 [some (.ref 31), none, none, some (.int (zI (i : Nat)))] [] h3 := by
    intro m
    induction m with
    | zero =>
      intro i h3 hi c3 w3
      have e3 : h3.2.1 31 27 = h.2.1 31 27 := c3.2 27 (by omega)
      have := hs.1
      exact w_MO_outStrip_46 (c3.S.trans hS) ⟨by omega, by omega, fun _ => k h3 c3 (by rw [List.take_of_length_le (by omega)] at w3; exact w3), fun z => by omega⟩
    | succ m ih =>
      intro i h3 hi c3 w3
      have e3 : h3.2.1 31 27 = h.2.1 31 27 := c3.2 27 (by omega)
      have := hs.1
      refine w_MO_outStrip_46 (c3.S.trans hS) ⟨by omega, by omega, fun z => by omega, fun _ => ⟨by omega, by omega, ?_⟩⟩
      rw [Int.toNat_natCast, c3.1.2.2.1 38 _ (by omega), hs.2 i (by omega)]
      refine m_out (c3.S.trans hS) w3 (by simp; omega) fun h4 c4 w4 => ⟨rfl, c4.S, ?_⟩
      have e : ((i : Nat) : Int) + 1 = ((i + 1 : Nat) : Int) := by omega
      rw [e]
      have hget : B.getD i 0 = B[i]'(by omega) := by simp [List.getD_eq_getElem?_getD, List.getElem?_eq_getElem (show i < B.length by omega)]
      have hbi := hB _ (List.getElem_mem (show i < B.length by omega))
      refine ih (i + 1) h4 (by omega) (c3.tr c4) ?_
      rw [hget, Int.emod_eq_of_lt hbi.1 hbi.2] at w4
      rw [List.take_succ_eq_append_getElem (show i < B.length by omega), ← List.append_assoc]
      exact w4
  exact loop _ 0 h (Nat.zero_add _) mo.rf (by simpa using mw)
end RW
