/-! the strips of a file: the program -/
noncomputable def stO (L : List Int) (sc g w top : Int) (n : Nat) (p e : Int) (f : Int → Int → Int) : Option (Int → Int → Int) :=
  if sc = 3 then fxO L e w 1 top n p f else if sc = 4 then fxO L e w 0 top n p f else if sc = 5 then tbO L e g w top (n * (rbn g w).toNat) p f else if sc = 32773 then rnO L e g w top (n * (rbn g w).toNat) p f else plO L e g w top (n * (rbn g w).toNat) p f
noncomputable def rdS (L : List Int) (b sc g w t rows : Int) : Nat → Nat → (Int → Int → Int) → Option (Int → Int → Int)
  | 0, _, f => some f
  | m + 1, k, f =>
    match stO L sc g w (k * rows) (nst t rows k) (8 * tval L b (tT L b 5) k) (8 * (tval L b (tT L b 5) k + tval L b (tT L b 7) k)) f with
    | none => none
    | some f2 => rdS L b sc g w t rows m (k + 1) f2
theorem rdS_s (L : List Int) (b sc g w t rows : Int) (m k : Nat) (f : Int → Int → Int) : rdS L b sc g w t rows (m + 1) k f = match stO L sc g w (k * rows) (nst t rows k) (8 * tval L b (tT L b 5) k) (8 * (tval L b (tT L b 5) k + tval L b (tT L b 7) k)) f with
    | none => none
    | some f2 => rdS L b sc g w t rows m (k + 1) f2 := rfl
theorem dF_out {g w top x v : Int} {f : Int → Int → Int} {B : List Int} {n : Nat} (hg : g = 0 ∨ g = 1) (hn : 0 ≤ rbn g w) (hB : (B.length : Int) ≤ n * rbn g w) (hv : v < top ∨ top + n ≤ v) : dF g w f top B x v = f x v := by
  unfold dF
  rw [if_neg]
  rintro ⟨h1, h2, h3, h4⟩
  have hb := bix_R hg h1 h2
  have h5 : (n : Int) * rbn g w ≤ (v - top) * rbn g w := Int.mul_le_mul_of_nonneg_right (by omega) hn
  omega
theorem tbS_len {L : List Int} {e : Int} {T : Nat} : ∀ {m : Nat} {p : Int} {E : List (List Int)} {last B : List Int} {q : Int} {B2 : List Int}, B.length ≤ T → tbS L e T m p E last B = some (q, B2) → B2.length ≤ T
  | 0, p, E, last, B, q, B2, h0, h => by simp [tbS] at h
  | m + 1, p, E, last, B, q, B2, h0, h => by
    unfold tbS at h
    split at h
    · exact absurd h (by simp)
    · split at h
      · injection h with h; injection h with h1 h2; rw [← h2]; exact h0
      · split at h
        · exact tbS_len h0 h
        · split at h
          · exact absurd h (by simp)
          · split at h
            · exact absurd h (by simp)
            · exact tbS_len (by rw [List.length_append]; omega) h
theorem rnS_len {L : List Int} {e N : Int} {T : Nat} (hN : 1 ≤ N) (hTN : (T : Int) % N = 0) : ∀ {m : Nat} {p : Int} {B : List Int} {q : Int} {B2 : List Int}, B.length ≤ T → rnS L e N T m p B = some (q, B2) → B2.length = T
  | 0, p, B, q, B2, h0, h => by simp [rnS] at h
  | m + 1, p, B, q, B2, h0, h => by
    unfold rnS at h
    split at h
    · injection h with h; injection h with h1 h2; rw [← h2]; omega
    · have hmod0 := Int.emod_nonneg (B.length : Int) (show N ≠ 0 by omega)
      have hmod1 := Int.emod_lt_of_pos (B.length : Int) (show 0 < N by omega)
      have fits : (B.length : Int) + (N - (B.length : Int) % N) ≤ T := by
        have e1 := Int.mul_ediv_add_emod (B.length : Int) N
        have e2 := Int.mul_ediv_add_emod (T : Int) N
        have h1 : (B.length : Int) / N < (T : Int) / N := by
          by_cases h9 : (T : Int) / N ≤ (B.length : Int) / N
          · have := Int.mul_le_mul_of_nonneg_left h9 (show 0 ≤ N by omega)
            omega
          · omega
        have h2 : N * ((B.length : Int) / N + 1) ≤ N * ((T : Int) / N) := Int.mul_le_mul_of_nonneg_left (by omega) (by omega)
        rw [Int.mul_add, Int.mul_one] at h2
        omega
      have hb := bn8_R L p
      split at h
      · exact absurd h (by simp)
      · split at h
        · exact rnS_len hN hTN h0 h
        · split at h
          · split at h
            · exact absurd h (by simp)
            · exact rnS_len hN hTN (by rw [List.length_append, byts_len]; omega) h
          · split at h
            · exact absurd h (by simp)
            · exact rnS_len hN hTN (by rw [List.length_append, List.length_replicate]; omega) h
theorem T_mod {n : Nat} {N : Int} (hN : 1 ≤ N) : ((n * N.toNat : Nat) : Int) = n * N ∧ ((n * N.toNat : Nat) : Int) % N = 0 := by
  have e1 : ((n * N.toNat : Nat) : Int) = n * N := by rw [Int.natCast_mul, Int.toNat_of_nonneg (by omega)]
  refine ⟨e1, ?_⟩
  rw [e1, Int.mul_emod_left]
theorem stO_out {L : List Int} {sc g w top p e : Int} {n : Nat} {f f2 : Int → Int → Int} (hg : g = 0 ∨ g = 1) (hN : 1 ≤ rbn g w) (h : stO L sc g w top n p e f = some f2) (x v : Int) (hv : v < top ∨ top + n ≤ v) : f2 x v = f x v := by
  have hT := T_mod (n := n) hN
  unfold stO at h
  split at h
  · exact fxO_out h x v hv
  · split at h
    · exact fxO_out h x v hv
    · split at h
      · unfold tbO at h
        split at h
        · exact absurd h (by simp)
        · split at h
          · exact absurd h (by simp)
          · rename_i q B hq
            have := (opt_some h).2
            subst this
            exact dF_out hg (by omega) (by have := tbS_len (by simp) hq; omega) hv
      · split at h
        · unfold rnO at h
          split at h
          · exact absurd h (by simp)
          · rename_i q B hq
            have := (opt_some h).2
            subst this
            exact dF_out hg (by omega) (by have := rnS_len hN hT.2 (by simp) hq; omega) hv
        · unfold plO at h
          have := (opt_some h).2
          subst this
          exact dF_out hg (by omega) (by rw [byts_len]; omega) hv
theorem pOK0 {g w t : Int} (hg : g = 0 ∨ g = 1) (h1 : 1 ≤ w) (h2 : w ≤ 40) (h3 : 1 ≤ t) (h4 : t ≤ 24) (h5 : g = 1 → w ≤ 20 ∧ t ≤ 20) : pOK g w t (fun _ _ => 0) := ⟨hg, h1, h2, h3, h4, h5, fun _ _ => by show (0 : Int) ≤ 0 ∧ (0 : Int) ≤ _; split <;> omega, fun _ _ _ => rfl⟩
section US
variable {l : Launch} {Q : Option Value → fx_H → Prop} {h : fx_H} {a : Nat → Nat} {pp dd : Nat} {L : List Int} {b p e : Int} {g w t top : Int} {f : Int → Int → Int} {n : Nat}
theorem cU.sm {P : Nat → Prop} {h h2 : fx_H} (c : cU h L b) (s : sm P h h2) (h1 : ¬ P 11) (h3 : ¬ P 12) : cU h2 L b := by
  obtain ⟨c1, c2, c3, c4, c5, c6, c7⟩ := c
  exact ⟨c1.sm s h3, by rw [s.2.1 11 2 h1]; exact c2, by rw [s.2.1 11 3 h1]; exact c3, by rw [s.2.1 11 4 h1]; exact c4, by rw [s.2.1 11 5 h1]; exact c5, by rw [s.2.1 11 6 h1]; exact c6, by rw [s.2.1 11 7 h1]; exact c7⟩
theorem fxM.sm {P : Nat → Prop} {h h2 : fx_H} (c : fxM h) (m : sm P h h2) (h1 : ¬ P 23) (h3 : ¬ P 24) : fxM h2 := ⟨by rw [m.2.1 23 0 h1]; exact c.1, by rw [m.2.1 24 0 h3]; exact c.2⟩
theorem s3p.u {p : Nat} {h h2 : fx_H} (m : sm (s3p p) h h2) : sm (sU p) h h2 := m.mono fun j q => by omega
theorem up_13 (hS : h.1 = fx_S0 a pp dd) (fm : fxM h) (tr : c3T h) (cp : cP h dd g w t f) (cr : cRd h L b p e) (hs : sOK 1 g) (hz : ∀ x y, top ≤ y → f x y = 0) (h0 : 0 ≤ top) (hn : top + n ≤ t) (k1 : ∀ f2, stO L 1 g w top n p e f = some f2 → ∀ h2, sm (sU dd) h h2 → cP h2 dd g w t f2 → cL h2 L b → Q (some (.int (zI 1))) h2) (k0 : stO L 1 g w top n p e f = none → ∀ h2, sm (sU dd) h h2 → Q (some (.int (zI 0))) h2) : fx_Mt l M_PL_unpack (0, 0) [.ref 13, .ref dd, .int (zI top), .int (zI (top + n))] h Q := by
  have hr := cp.2.2.2.2.2.2.2.rb
  have hT := (T_mod (n := n) hr.1).1
  have e1 : top + (n : Int) - top = n := by omega
  have eo : stO L 1 g w top n p e f = plO L e g w top (n * (rbn g w).toNat) p f := by unfold stO; rw [if_neg (by omega), if_neg (by omega), if_neg (by omega), if_neg (by omega)]
  rw [eo] at k1 k0
  exact m_PLunpack hS cp cr h0 (by omega) hn (by rw [e1]; exact hT) (fun f2 u h2 m2 p2 c2 => k1 f2 u h2 (s3p.u m2) p2 c2) (fun u h2 m2 => k0 u h2 (s3p.u m2))
theorem up_14 (hS : h.1 = fx_S0 a pp dd) (fm : fxM h) (tr : c3T h) (cp : cP h dd g w t f) (cr : cRd h L b p e) (hs : sOK 32773 g) (hz : ∀ x y, top ≤ y → f x y = 0) (h0 : 0 ≤ top) (hn : top + n ≤ t) (k1 : ∀ f2, stO L 32773 g w top n p e f = some f2 → ∀ h2, sm (sU dd) h h2 → cP h2 dd g w t f2 → cL h2 L b → Q (some (.int (zI 1))) h2) (k0 : stO L 32773 g w top n p e f = none → ∀ h2, sm (sU dd) h h2 → Q (some (.int (zI 0))) h2) : fx_Mt l M_RU_unpack (0, 0) [.ref 14, .ref dd, .int (zI top), .int (zI (top + n))] h Q := by
  have hr := cp.2.2.2.2.2.2.2.rb
  have hT := (T_mod (n := n) hr.1).1
  have e1 : top + (n : Int) - top = n := by omega
  have eo : stO L 32773 g w top n p e f = rnO L e g w top (n * (rbn g w).toNat) p f := by unfold stO; rw [if_neg (by omega), if_neg (by omega), if_neg (by omega), if_pos rfl]
  rw [eo] at k1 k0
  exact m_RUunpack hS cp cr h0 (by omega) hn (by rw [e1]; exact hT) (fun f2 u h2 m2 p2 c2 => k1 f2 u h2 (s3p.u m2) p2 c2) (fun u h2 m2 => k0 u h2 (s3p.u m2))
theorem up_16 (hS : h.1 = fx_S0 a pp dd) (fm : fxM h) (tr : c3T h) (cp : cP h dd g w t f) (cr : cRd h L b p e) (hs : sOK 5 g) (hz : ∀ x y, top ≤ y → f x y = 0) (h0 : 0 ≤ top) (hn : top + n ≤ t) (k1 : ∀ f2, stO L 5 g w top n p e f = some f2 → ∀ h2, sm (sU dd) h h2 → cP h2 dd g w t f2 → cL h2 L b → Q (some (.int (zI 1))) h2) (k0 : stO L 5 g w top n p e f = none → ∀ h2, sm (sU dd) h h2 → Q (some (.int (zI 0))) h2) : fx_Mt l M_TA_unpack (0, 0) [.ref 16, .ref dd, .int (zI top), .int (zI (top + n))] h Q := by
  have hr := cp.2.2.2.2.2.2.2.rb
  have hT := (T_mod (n := n) hr.1).1
  have e1 : top + (n : Int) - top = n := by omega
  have eo : stO L 5 g w top n p e f = tbO L e g w top (n * (rbn g w).toNat) p f := by unfold stO; rw [if_neg (by omega), if_neg (by omega), if_pos rfl]
  rw [eo] at k1 k0
  exact m_TAunpack hS cp cr h0 (by omega) hn (by rw [e1]; exact hT) k1 k0
theorem up_23 (hS : h.1 = fx_S0 a pp dd) (fm : fxM h) (tr : c3T h) (cp : cP h dd g w t f) (cr : cRd h L b p e) (hs : sOK 3 g) (hz : ∀ x y, top ≤ y → f x y = 0) (h0 : 0 ≤ top) (hn : top + n ≤ t) (k1 : ∀ f2, stO L 3 g w top n p e f = some f2 → ∀ h2, sm (sU dd) h h2 → cP h2 dd g w t f2 → cL h2 L b → Q (some (.int (zI 1))) h2) (k0 : stO L 3 g w top n p e f = none → ∀ h2, sm (sU dd) h h2 → Q (some (.int (zI 0))) h2) : fx_Mt l M_FX_unpack (0, 0) [.ref 23, .ref dd, .int (zI top), .int (zI (top + n))] h Q := by
  have hr := cp.2.2.2.2.2.2.2.rb
  have hT := (T_mod (n := n) hr.1).1
  have e1 : top + (n : Int) - top = n := by omega
  have eo : stO L 3 g w top n p e f = fxO L e w 1 top n p f := by unfold stO; rw [if_pos rfl]
  rw [eo] at k1 k0
  exact m_FXunpack hS (fa := a 23) (by rw [hS]; rfl) (fm.1) (by omega) (by omega) cp (hs.2 (by omega)) hz cr tr h0 rfl hn (fun f2 u h2 m2 p2 c2 => k1 f2 u h2 (s3p.u m2) p2 c2) (fun u h2 m2 => k0 u h2 (s3p.u m2))
theorem up_24 (hS : h.1 = fx_S0 a pp dd) (fm : fxM h) (tr : c3T h) (cp : cP h dd g w t f) (cr : cRd h L b p e) (hs : sOK 4 g) (hz : ∀ x y, top ≤ y → f x y = 0) (h0 : 0 ≤ top) (hn : top + n ≤ t) (k1 : ∀ f2, stO L 4 g w top n p e f = some f2 → ∀ h2, sm (sU dd) h h2 → cP h2 dd g w t f2 → cL h2 L b → Q (some (.int (zI 1))) h2) (k0 : stO L 4 g w top n p e f = none → ∀ h2, sm (sU dd) h h2 → Q (some (.int (zI 0))) h2) : fx_Mt l M_FX_unpack (0, 0) [.ref 24, .ref dd, .int (zI top), .int (zI (top + n))] h Q := by
  have hr := cp.2.2.2.2.2.2.2.rb
  have hT := (T_mod (n := n) hr.1).1
  have e1 : top + (n : Int) - top = n := by omega
  have eo : stO L 4 g w top n p e f = fxO L e w 0 top n p f := by unfold stO; rw [if_neg (by omega), if_pos rfl]
  rw [eo] at k1 k0
  exact m_FXunpack hS (fa := a 24) (by rw [hS]; rfl) (fm.2) (by omega) (by omega) cp (hs.2 (by omega)) hz cr tr h0 rfl hn (fun f2 u h2 m2 p2 c2 => k1 f2 u h2 (s3p.u m2) p2 c2) (fun u h2 m2 => k0 u h2 (s3p.u m2))
theorem v_unpackStrips_13 (hS : h.1 = fx_S0 a pp dd) (qd : pd pp dd) (fm : fxM h) (tr : c3T h) (c : cL h L b) (tg : tagOK L b) (io : inOK L b) (u : cU h L b) (hsc : ov L b 3 = 1) (cp : cP h dd (rg L b) (ov L b 0) (ov L b 1) (fun _ _ => 0)) (k1 : ∀ f2, rdS L b 1 (rg L b) (ov L b 0) (ov L b 1) (ov L b 6) (rmm L b).toNat 0 (fun _ _ => 0) = some f2 → ∀ h2, sm (sU dd) h h2 → cP h2 dd (rg L b) (ov L b 0) (ov L b 1) f2 → cL h2 L b → Q (some (.int (zI 1))) h2) (k0 : rdS L b 1 (rg L b) (ov L b 0) (ov L b 1) (ov L b 6) (rmm L b).toNat 0 (fun _ _ => 0) = none → ∀ h2, sm (sU dd) h h2 → Q (some (.int (zI 0))) h2) : fx_V l M_FP_unpackStrips (0, 0) Q 0 0 42 [some (.ref 0), some (.ref 13), some (.int (zI 0))] [] h := by
  have hB := c.2.2.2.2
  have hlen := c.2.2.2.1
  have hm := tg.m
  have ro := tg.rOK
  have hdd : dd = 27 ∨ dd = 29 := by unfold pd at qd; omega
  have hrg := rg_01 L b
  have hN := cp.2.2.2.2.2.2.2.rb
  have hsg : sOK 1 (rg L b) := ⟨by omega, fun z => by have := tg.2.2.1.2.1; rw [hsc] at this; omega⟩
  have loop : ∀ (m k : Nat) (f : Int → Int → Int) (h2 : fx_H), (k : Int) + m = rmm L b → sm (sU dd) h h2 → cP h2 dd (rg L b) (ov L b 0) (ov L b 1) f → cL h2 L b → (∀ x y, (k : Int) * ov L b 6 ≤ y → f x y = 0) → rdS L b 1 (rg L b) (ov L b 0) (ov L b 1) (ov L b 6) (rmm L b).toNat 0 (fun _ _ => 0) = rdS L b 1 (rg L b) (ov L b 0) (ov L b 1) (ov L b 6) m k f → fx_V l M_FP_unpackStrips (0, 0) Q 0 0 42 [some (.ref 0), some (.ref 13), some (.int (zI (k : Nat)))] [] h2 := by
    intro m
    induction m with
    | zero =>
      intro k f h2 hk m2 p2 c2 hz er
      have u2 : cU h2 L b := u.sm m2 (by omega) (by omega)
      have hS2 := m2.1.trans hS
      refine w_FP_unpackStrips_42_13 hS2 (pA hS2 qd) (pB hS2 qd) (dA hS2 qd) (dB hS2 qd) ?_
      rw [u2.2.2.2.2.2.2]
      exact ⟨by omega, by omega, fun _ => k1 f er h2 m2 p2 c2, fun z => by omega⟩
    | succ m ih =>
      intro k f h2 hk m2 p2 c2 hz er
      have u2 : cU h2 L b := u.sm m2 (by omega) (by omega)
      have hS2 := m2.1.trans hS
      rw [rdS_s] at er
      have v5 := tval_R (b := b) hB (tT L b 5) k
      have v7 := tval_R (b := b) hB (tT L b 7) k
      have vin := io k (by omega)
      have hlt := ro.lt (i := k) (by omega)
      have hr1 : 1 ≤ ov L b 6 := tg.2.2.2.1
      have hk0 : 0 ≤ (k : Int) * ov L b 6 := Int.mul_nonneg (by omega) (by omega)
      have hk1 : ((k : Int) + 1) * ov L b 6 = k * ov L b 6 + ov L b 6 := by rw [Int.add_mul, Int.one_mul]
      have hr6 : ov L b 6 ≤ ov L b 1 := tg.2.2.2.2.1
      have hnn : (k : Int) * ov L b 6 + (nst (ov L b 1) (ov L b 6) k : Nat) = if ((k : Int) + 1) * ov L b 6 < ov L b 1 then ((k : Int) + 1) * ov L b 6 else ov L b 1 := by
        unfold nst
        split <;> omega
      refine w_FP_unpackStrips_42_13 hS2 (pA hS2 qd) (pB hS2 qd) (dA hS2 qd) (dB hS2 qd) ?_
      rw [u2.2.2.2.2.2.2]
      refine ⟨by omega, by omega, fun z => by omega, fun _ => ?_⟩
      refine m_valueOf 5 (by omega) rfl hS2 c2 tg.1.1 u2.1 (by omega) (by omega) (by omega) tg.2.2.2.2.2.1 ⟨_, rfl, rfl, ?_⟩
      refine m_valueOf 7 (by omega) rfl hS2 c2 tg.1.1 u2.1 (by omega) (by omega) (by omega) tg.2.2.2.2.2.2 ⟨_, rfl, rfl, ?_⟩
      refine e_BR_open hS2 ⟨rfl, rfl, ?_⟩
      have mu : sm s3 h2 (fx_uF (fx_uF h2 3 1 (8 * tval L b (tT L b 5) k)) 3 2 (8 * (tval L b (tT L b 5) k + tval L b (tT L b 7) k))) := (sm.uF (P := s3) rfl).tr (sm.uF rfl)
      have cr : cRd (fx_uF (fx_uF h2 3 1 (8 * tval L b (tT L b 5) k)) 3 2 (8 * (tval L b (tT L b 5) k + tval L b (tT L b 7) k))) L b (8 * tval L b (tT L b 5) k) (8 * (tval L b (tT L b 5) k + tval L b (tT L b 7) k)) := ⟨c2.sm mu (by omega) (by omega), by rw [uF_n _ _ (by omega), uF_s], uF_s _ _ _ _, by omega, by omega, by omega⟩
      have m3 : sm (sU dd) h _ := m2.tr (mu.mono fun j q9 => Or.inl q9)
      have u3 : cU _ L b := u.sm m3 (by omega) (by omega)
      rw [u3.2.2.2.1, u3.2.2.2.2.2.1]
      refine ⟨by omega, by omega, ?_⟩
      rw [← hnn]
      have hnt : (k : Int) * ov L b 6 + (nst (ov L b 1) (ov L b 6) k : Nat) ≤ ov L b 1 := by rw [hnn]; split <;> omega
      have ek : (k : Int) + 1 = ((k + 1 : Nat) : Int) := by omega
      refine up_13 (m3.1.trans hS) (fm.sm m3 (by omega) (by omega)) (tr.sm m3 (by omega) (by omega) (by omega)) (p2.sm mu (by omega) (by omega)) cr hsg hz hk0 hnt (fun f2 e2 h4 m4 p4 c4 => ⟨1, rfl, m4.1, by omega, fun _ => ?_, fun z => by omega⟩) (fun e2 h4 m4 => ⟨0, rfl, m4.1, by omega, fun z => absurd rfl z, fun _ => k0 (by simp only [er, e2]) h4 (m3.tr m4)⟩)
      simp only [e2] at er
      rw [ek]
      refine ih (k + 1) f2 h4 (by omega) (m3.tr m4) p4 c4 (fun x y hy => ?_) er
      rw [← ek] at hy
      by_cases hyt : y < ov L b 1
      · rw [stO_out hrg hN.1 e2 x y (Or.inr (by rw [hnn]; split <;> omega))]
        exact hz x y (by omega)
      · have o4 := p4.2.2.2.2.2.2.2.2.2.2.2.2.2.2
        exact o4 x y (by omega)
  exact loop (rmm L b).toNat 0 _ h (by omega) sm.rf cp c (fun _ _ _ => rfl) rfl
theorem v_unpackStrips_14 (hS : h.1 = fx_S0 a pp dd) (qd : pd pp dd) (fm : fxM h) (tr : c3T h) (c : cL h L b) (tg : tagOK L b) (io : inOK L b) (u : cU h L b) (hsc : ov L b 3 = 32773) (cp : cP h dd (rg L b) (ov L b 0) (ov L b 1) (fun _ _ => 0)) (k1 : ∀ f2, rdS L b 32773 (rg L b) (ov L b 0) (ov L b 1) (ov L b 6) (rmm L b).toNat 0 (fun _ _ => 0) = some f2 → ∀ h2, sm (sU dd) h h2 → cP h2 dd (rg L b) (ov L b 0) (ov L b 1) f2 → cL h2 L b → Q (some (.int (zI 1))) h2) (k0 : rdS L b 32773 (rg L b) (ov L b 0) (ov L b 1) (ov L b 6) (rmm L b).toNat 0 (fun _ _ => 0) = none → ∀ h2, sm (sU dd) h h2 → Q (some (.int (zI 0))) h2) : fx_V l M_FP_unpackStrips (0, 0) Q 0 0 42 [some (.ref 0), some (.ref 14), some (.int (zI 0))] [] h := by
  have hB := c.2.2.2.2
  have hlen := c.2.2.2.1
  have hm := tg.m
  have ro := tg.rOK
  have hdd : dd = 27 ∨ dd = 29 := by unfold pd at qd; omega
  have hrg := rg_01 L b
  have hN := cp.2.2.2.2.2.2.2.rb
  have hsg : sOK 32773 (rg L b) := ⟨by omega, fun z => by have := tg.2.2.1.2.1; rw [hsc] at this; omega⟩
  have loop : ∀ (m k : Nat) (f : Int → Int → Int) (h2 : fx_H), (k : Int) + m = rmm L b → sm (sU dd) h h2 → cP h2 dd (rg L b) (ov L b 0) (ov L b 1) f → cL h2 L b → (∀ x y, (k : Int) * ov L b 6 ≤ y → f x y = 0) → rdS L b 32773 (rg L b) (ov L b 0) (ov L b 1) (ov L b 6) (rmm L b).toNat 0 (fun _ _ => 0) = rdS L b 32773 (rg L b) (ov L b 0) (ov L b 1) (ov L b 6) m k f → fx_V l M_FP_unpackStrips (0, 0) Q 0 0 42 [some (.ref 0), some (.ref 14), some (.int (zI (k : Nat)))] [] h2 := by
    intro m
    induction m with
    | zero =>
      intro k f h2 hk m2 p2 c2 hz er
      have u2 : cU h2 L b := u.sm m2 (by omega) (by omega)
      have hS2 := m2.1.trans hS
      refine w_FP_unpackStrips_42_14 hS2 (pA hS2 qd) (pB hS2 qd) (dA hS2 qd) (dB hS2 qd) ?_
      rw [u2.2.2.2.2.2.2]
      exact ⟨by omega, by omega, fun _ => k1 f er h2 m2 p2 c2, fun z => by omega⟩
    | succ m ih =>
      intro k f h2 hk m2 p2 c2 hz er
      have u2 : cU h2 L b := u.sm m2 (by omega) (by omega)
      have hS2 := m2.1.trans hS
      rw [rdS_s] at er
      have v5 := tval_R (b := b) hB (tT L b 5) k
      have v7 := tval_R (b := b) hB (tT L b 7) k
      have vin := io k (by omega)
      have hlt := ro.lt (i := k) (by omega)
      have hr1 : 1 ≤ ov L b 6 := tg.2.2.2.1
      have hk0 : 0 ≤ (k : Int) * ov L b 6 := Int.mul_nonneg (by omega) (by omega)
      have hk1 : ((k : Int) + 1) * ov L b 6 = k * ov L b 6 + ov L b 6 := by rw [Int.add_mul, Int.one_mul]
      have hr6 : ov L b 6 ≤ ov L b 1 := tg.2.2.2.2.1
      have hnn : (k : Int) * ov L b 6 + (nst (ov L b 1) (ov L b 6) k : Nat) = if ((k : Int) + 1) * ov L b 6 < ov L b 1 then ((k : Int) + 1) * ov L b 6 else ov L b 1 := by
        unfold nst
        split <;> omega
      refine w_FP_unpackStrips_42_14 hS2 (pA hS2 qd) (pB hS2 qd) (dA hS2 qd) (dB hS2 qd) ?_
      rw [u2.2.2.2.2.2.2]
      refine ⟨by omega, by omega, fun z => by omega, fun _ => ?_⟩
      refine m_valueOf 5 (by omega) rfl hS2 c2 tg.1.1 u2.1 (by omega) (by omega) (by omega) tg.2.2.2.2.2.1 ⟨_, rfl, rfl, ?_⟩
      refine m_valueOf 7 (by omega) rfl hS2 c2 tg.1.1 u2.1 (by omega) (by omega) (by omega) tg.2.2.2.2.2.2 ⟨_, rfl, rfl, ?_⟩
      refine e_BR_open hS2 ⟨rfl, rfl, ?_⟩
      have mu : sm s3 h2 (fx_uF (fx_uF h2 3 1 (8 * tval L b (tT L b 5) k)) 3 2 (8 * (tval L b (tT L b 5) k + tval L b (tT L b 7) k))) := (sm.uF (P := s3) rfl).tr (sm.uF rfl)
      have cr : cRd (fx_uF (fx_uF h2 3 1 (8 * tval L b (tT L b 5) k)) 3 2 (8 * (tval L b (tT L b 5) k + tval L b (tT L b 7) k))) L b (8 * tval L b (tT L b 5) k) (8 * (tval L b (tT L b 5) k + tval L b (tT L b 7) k)) := ⟨c2.sm mu (by omega) (by omega), by rw [uF_n _ _ (by omega), uF_s], uF_s _ _ _ _, by omega, by omega, by omega⟩
      have m3 : sm (sU dd) h _ := m2.tr (mu.mono fun j q9 => Or.inl q9)
      have u3 : cU _ L b := u.sm m3 (by omega) (by omega)
      rw [u3.2.2.2.1, u3.2.2.2.2.2.1]
      refine ⟨by omega, by omega, ?_⟩
      rw [← hnn]
      have hnt : (k : Int) * ov L b 6 + (nst (ov L b 1) (ov L b 6) k : Nat) ≤ ov L b 1 := by rw [hnn]; split <;> omega
      have ek : (k : Int) + 1 = ((k + 1 : Nat) : Int) := by omega
      refine up_14 (m3.1.trans hS) (fm.sm m3 (by omega) (by omega)) (tr.sm m3 (by omega) (by omega) (by omega)) (p2.sm mu (by omega) (by omega)) cr hsg hz hk0 hnt (fun f2 e2 h4 m4 p4 c4 => ⟨1, rfl, m4.1, by omega, fun _ => ?_, fun z => by omega⟩) (fun e2 h4 m4 => ⟨0, rfl, m4.1, by omega, fun z => absurd rfl z, fun _ => k0 (by simp only [er, e2]) h4 (m3.tr m4)⟩)
      simp only [e2] at er
      rw [ek]
      refine ih (k + 1) f2 h4 (by omega) (m3.tr m4) p4 c4 (fun x y hy => ?_) er
      rw [← ek] at hy
      by_cases hyt : y < ov L b 1
      · rw [stO_out hrg hN.1 e2 x y (Or.inr (by rw [hnn]; split <;> omega))]
        exact hz x y (by omega)
      · have o4 := p4.2.2.2.2.2.2.2.2.2.2.2.2.2.2
        exact o4 x y (by omega)
  exact loop (rmm L b).toNat 0 _ h (by omega) sm.rf cp c (fun _ _ _ => rfl) rfl
theorem v_unpackStrips_16 (hS : h.1 = fx_S0 a pp dd) (qd : pd pp dd) (fm : fxM h) (tr : c3T h) (c : cL h L b) (tg : tagOK L b) (io : inOK L b) (u : cU h L b) (hsc : ov L b 3 = 5) (cp : cP h dd (rg L b) (ov L b 0) (ov L b 1) (fun _ _ => 0)) (k1 : ∀ f2, rdS L b 5 (rg L b) (ov L b 0) (ov L b 1) (ov L b 6) (rmm L b).toNat 0 (fun _ _ => 0) = some f2 → ∀ h2, sm (sU dd) h h2 → cP h2 dd (rg L b) (ov L b 0) (ov L b 1) f2 → cL h2 L b → Q (some (.int (zI 1))) h2) (k0 : rdS L b 5 (rg L b) (ov L b 0) (ov L b 1) (ov L b 6) (rmm L b).toNat 0 (fun _ _ => 0) = none → ∀ h2, sm (sU dd) h h2 → Q (some (.int (zI 0))) h2) : fx_V l M_FP_unpackStrips (0, 0) Q 0 0 42 [some (.ref 0), some (.ref 16), some (.int (zI 0))] [] h := by
  have hB := c.2.2.2.2
  have hlen := c.2.2.2.1
  have hm := tg.m
  have ro := tg.rOK
  have hdd : dd = 27 ∨ dd = 29 := by unfold pd at qd; omega
  have hrg := rg_01 L b
  have hN := cp.2.2.2.2.2.2.2.rb
  have hsg : sOK 5 (rg L b) := ⟨by omega, fun z => by have := tg.2.2.1.2.1; rw [hsc] at this; omega⟩
  have loop : ∀ (m k : Nat) (f : Int → Int → Int) (h2 : fx_H), (k : Int) + m = rmm L b → sm (sU dd) h h2 → cP h2 dd (rg L b) (ov L b 0) (ov L b 1) f → cL h2 L b → (∀ x y, (k : Int) * ov L b 6 ≤ y → f x y = 0) → rdS L b 5 (rg L b) (ov L b 0) (ov L b 1) (ov L b 6) (rmm L b).toNat 0 (fun _ _ => 0) = rdS L b 5 (rg L b) (ov L b 0) (ov L b 1) (ov L b 6) m k f → fx_V l M_FP_unpackStrips (0, 0) Q 0 0 42 [some (.ref 0), some (.ref 16), some (.int (zI (k : Nat)))] [] h2 := by
    intro m
    induction m with
    | zero =>
      intro k f h2 hk m2 p2 c2 hz er
      have u2 : cU h2 L b := u.sm m2 (by omega) (by omega)
      have hS2 := m2.1.trans hS
      refine w_FP_unpackStrips_42_16 hS2 (pA hS2 qd) (pB hS2 qd) (dA hS2 qd) (dB hS2 qd) ?_
      rw [u2.2.2.2.2.2.2]
      exact ⟨by omega, by omega, fun _ => k1 f er h2 m2 p2 c2, fun z => by omega⟩
    | succ m ih =>
      intro k f h2 hk m2 p2 c2 hz er
      have u2 : cU h2 L b := u.sm m2 (by omega) (by omega)
      have hS2 := m2.1.trans hS
      rw [rdS_s] at er
      have v5 := tval_R (b := b) hB (tT L b 5) k
      have v7 := tval_R (b := b) hB (tT L b 7) k
      have vin := io k (by omega)
      have hlt := ro.lt (i := k) (by omega)
      have hr1 : 1 ≤ ov L b 6 := tg.2.2.2.1
      have hk0 : 0 ≤ (k : Int) * ov L b 6 := Int.mul_nonneg (by omega) (by omega)
      have hk1 : ((k : Int) + 1) * ov L b 6 = k * ov L b 6 + ov L b 6 := by rw [Int.add_mul, Int.one_mul]
      have hr6 : ov L b 6 ≤ ov L b 1 := tg.2.2.2.2.1
      have hnn : (k : Int) * ov L b 6 + (nst (ov L b 1) (ov L b 6) k : Nat) = if ((k : Int) + 1) * ov L b 6 < ov L b 1 then ((k : Int) + 1) * ov L b 6 else ov L b 1 := by
        unfold nst
        split <;> omega
      refine w_FP_unpackStrips_42_16 hS2 (pA hS2 qd) (pB hS2 qd) (dA hS2 qd) (dB hS2 qd) ?_
      rw [u2.2.2.2.2.2.2]
      refine ⟨by omega, by omega, fun z => by omega, fun _ => ?_⟩
      refine m_valueOf 5 (by omega) rfl hS2 c2 tg.1.1 u2.1 (by omega) (by omega) (by omega) tg.2.2.2.2.2.1 ⟨_, rfl, rfl, ?_⟩
      refine m_valueOf 7 (by omega) rfl hS2 c2 tg.1.1 u2.1 (by omega) (by omega) (by omega) tg.2.2.2.2.2.2 ⟨_, rfl, rfl, ?_⟩
      refine e_BR_open hS2 ⟨rfl, rfl, ?_⟩
      have mu : sm s3 h2 (fx_uF (fx_uF h2 3 1 (8 * tval L b (tT L b 5) k)) 3 2 (8 * (tval L b (tT L b 5) k + tval L b (tT L b 7) k))) := (sm.uF (P := s3) rfl).tr (sm.uF rfl)
      have cr : cRd (fx_uF (fx_uF h2 3 1 (8 * tval L b (tT L b 5) k)) 3 2 (8 * (tval L b (tT L b 5) k + tval L b (tT L b 7) k))) L b (8 * tval L b (tT L b 5) k) (8 * (tval L b (tT L b 5) k + tval L b (tT L b 7) k)) := ⟨c2.sm mu (by omega) (by omega), by rw [uF_n _ _ (by omega), uF_s], uF_s _ _ _ _, by omega, by omega, by omega⟩
      have m3 : sm (sU dd) h _ := m2.tr (mu.mono fun j q9 => Or.inl q9)
      have u3 : cU _ L b := u.sm m3 (by omega) (by omega)
      rw [u3.2.2.2.1, u3.2.2.2.2.2.1]
      refine ⟨by omega, by omega, ?_⟩
      rw [← hnn]
      have hnt : (k : Int) * ov L b 6 + (nst (ov L b 1) (ov L b 6) k : Nat) ≤ ov L b 1 := by rw [hnn]; split <;> omega
      have ek : (k : Int) + 1 = ((k + 1 : Nat) : Int) := by omega
      refine up_16 (m3.1.trans hS) (fm.sm m3 (by omega) (by omega)) (tr.sm m3 (by omega) (by omega) (by omega)) (p2.sm mu (by omega) (by omega)) cr hsg hz hk0 hnt (fun f2 e2 h4 m4 p4 c4 => ⟨1, rfl, m4.1, by omega, fun _ => ?_, fun z => by omega⟩) (fun e2 h4 m4 => ⟨0, rfl, m4.1, by omega, fun z => absurd rfl z, fun _ => k0 (by simp only [er, e2]) h4 (m3.tr m4)⟩)
      simp only [e2] at er
      rw [ek]
      refine ih (k + 1) f2 h4 (by omega) (m3.tr m4) p4 c4 (fun x y hy => ?_) er
      rw [← ek] at hy
      by_cases hyt : y < ov L b 1
      · rw [stO_out hrg hN.1 e2 x y (Or.inr (by rw [hnn]; split <;> omega))]
        exact hz x y (by omega)
      · have o4 := p4.2.2.2.2.2.2.2.2.2.2.2.2.2.2
        exact o4 x y (by omega)
  exact loop (rmm L b).toNat 0 _ h (by omega) sm.rf cp c (fun _ _ _ => rfl) rfl
theorem v_unpackStrips_23 (hS : h.1 = fx_S0 a pp dd) (qd : pd pp dd) (fm : fxM h) (tr : c3T h) (c : cL h L b) (tg : tagOK L b) (io : inOK L b) (u : cU h L b) (hsc : ov L b 3 = 3) (cp : cP h dd (rg L b) (ov L b 0) (ov L b 1) (fun _ _ => 0)) (k1 : ∀ f2, rdS L b 3 (rg L b) (ov L b 0) (ov L b 1) (ov L b 6) (rmm L b).toNat 0 (fun _ _ => 0) = some f2 → ∀ h2, sm (sU dd) h h2 → cP h2 dd (rg L b) (ov L b 0) (ov L b 1) f2 → cL h2 L b → Q (some (.int (zI 1))) h2) (k0 : rdS L b 3 (rg L b) (ov L b 0) (ov L b 1) (ov L b 6) (rmm L b).toNat 0 (fun _ _ => 0) = none → ∀ h2, sm (sU dd) h h2 → Q (some (.int (zI 0))) h2) : fx_V l M_FP_unpackStrips (0, 0) Q 0 0 42 [some (.ref 0), some (.ref 23), some (.int (zI 0))] [] h := by
  have hB := c.2.2.2.2
  have hlen := c.2.2.2.1
  have hm := tg.m
  have ro := tg.rOK
  have hdd : dd = 27 ∨ dd = 29 := by unfold pd at qd; omega
  have hrg := rg_01 L b
  have hN := cp.2.2.2.2.2.2.2.rb
  have hsg : sOK 3 (rg L b) := ⟨by omega, fun z => by have := tg.2.2.1.2.1; rw [hsc] at this; omega⟩
  have loop : ∀ (m k : Nat) (f : Int → Int → Int) (h2 : fx_H), (k : Int) + m = rmm L b → sm (sU dd) h h2 → cP h2 dd (rg L b) (ov L b 0) (ov L b 1) f → cL h2 L b → (∀ x y, (k : Int) * ov L b 6 ≤ y → f x y = 0) → rdS L b 3 (rg L b) (ov L b 0) (ov L b 1) (ov L b 6) (rmm L b).toNat 0 (fun _ _ => 0) = rdS L b 3 (rg L b) (ov L b 0) (ov L b 1) (ov L b 6) m k f → fx_V l M_FP_unpackStrips (0, 0) Q 0 0 42 [some (.ref 0), some (.ref 23), some (.int (zI (k : Nat)))] [] h2 := by
    intro m
    induction m with
    | zero =>
      intro k f h2 hk m2 p2 c2 hz er
      have u2 : cU h2 L b := u.sm m2 (by omega) (by omega)
      have hS2 := m2.1.trans hS
      refine w_FP_unpackStrips_42_23 hS2 (pA hS2 qd) (pB hS2 qd) (dA hS2 qd) (dB hS2 qd) ?_
      rw [u2.2.2.2.2.2.2]
      exact ⟨by omega, by omega, fun _ => k1 f er h2 m2 p2 c2, fun z => by omega⟩
    | succ m ih =>
      intro k f h2 hk m2 p2 c2 hz er
      have u2 : cU h2 L b := u.sm m2 (by omega) (by omega)
      have hS2 := m2.1.trans hS
      rw [rdS_s] at er
      have v5 := tval_R (b := b) hB (tT L b 5) k
      have v7 := tval_R (b := b) hB (tT L b 7) k
      have vin := io k (by omega)
      have hlt := ro.lt (i := k) (by omega)
      have hr1 : 1 ≤ ov L b 6 := tg.2.2.2.1
      have hk0 : 0 ≤ (k : Int) * ov L b 6 := Int.mul_nonneg (by omega) (by omega)
      have hk1 : ((k : Int) + 1) * ov L b 6 = k * ov L b 6 + ov L b 6 := by rw [Int.add_mul, Int.one_mul]
      have hr6 : ov L b 6 ≤ ov L b 1 := tg.2.2.2.2.1
      have hnn : (k : Int) * ov L b 6 + (nst (ov L b 1) (ov L b 6) k : Nat) = if ((k : Int) + 1) * ov L b 6 < ov L b 1 then ((k : Int) + 1) * ov L b 6 else ov L b 1 := by
        unfold nst
        split <;> omega
      refine w_FP_unpackStrips_42_23 hS2 (pA hS2 qd) (pB hS2 qd) (dA hS2 qd) (dB hS2 qd) ?_
      rw [u2.2.2.2.2.2.2]
      refine ⟨by omega, by omega, fun z => by omega, fun _ => ?_⟩
      refine m_valueOf 5 (by omega) rfl hS2 c2 tg.1.1 u2.1 (by omega) (by omega) (by omega) tg.2.2.2.2.2.1 ⟨_, rfl, rfl, ?_⟩
      refine m_valueOf 7 (by omega) rfl hS2 c2 tg.1.1 u2.1 (by omega) (by omega) (by omega) tg.2.2.2.2.2.2 ⟨_, rfl, rfl, ?_⟩
      refine e_BR_open hS2 ⟨rfl, rfl, ?_⟩
      have mu : sm s3 h2 (fx_uF (fx_uF h2 3 1 (8 * tval L b (tT L b 5) k)) 3 2 (8 * (tval L b (tT L b 5) k + tval L b (tT L b 7) k))) := (sm.uF (P := s3) rfl).tr (sm.uF rfl)
      have cr : cRd (fx_uF (fx_uF h2 3 1 (8 * tval L b (tT L b 5) k)) 3 2 (8 * (tval L b (tT L b 5) k + tval L b (tT L b 7) k))) L b (8 * tval L b (tT L b 5) k) (8 * (tval L b (tT L b 5) k + tval L b (tT L b 7) k)) := ⟨c2.sm mu (by omega) (by omega), by rw [uF_n _ _ (by omega), uF_s], uF_s _ _ _ _, by omega, by omega, by omega⟩
      have m3 : sm (sU dd) h _ := m2.tr (mu.mono fun j q9 => Or.inl q9)
      have u3 : cU _ L b := u.sm m3 (by omega) (by omega)
      rw [u3.2.2.2.1, u3.2.2.2.2.2.1]
      refine ⟨by omega, by omega, ?_⟩
      rw [← hnn]
      have hnt : (k : Int) * ov L b 6 + (nst (ov L b 1) (ov L b 6) k : Nat) ≤ ov L b 1 := by rw [hnn]; split <;> omega
      have ek : (k : Int) + 1 = ((k + 1 : Nat) : Int) := by omega
      refine up_23 (m3.1.trans hS) (fm.sm m3 (by omega) (by omega)) (tr.sm m3 (by omega) (by omega) (by omega)) (p2.sm mu (by omega) (by omega)) cr hsg hz hk0 hnt (fun f2 e2 h4 m4 p4 c4 => ⟨1, rfl, m4.1, by omega, fun _ => ?_, fun z => by omega⟩) (fun e2 h4 m4 => ⟨0, rfl, m4.1, by omega, fun z => absurd rfl z, fun _ => k0 (by simp only [er, e2]) h4 (m3.tr m4)⟩)
      simp only [e2] at er
      rw [ek]
      refine ih (k + 1) f2 h4 (by omega) (m3.tr m4) p4 c4 (fun x y hy => ?_) er
      rw [← ek] at hy
      by_cases hyt : y < ov L b 1
      · rw [stO_out hrg hN.1 e2 x y (Or.inr (by rw [hnn]; split <;> omega))]
        exact hz x y (by omega)
      · have o4 := p4.2.2.2.2.2.2.2.2.2.2.2.2.2.2
        exact o4 x y (by omega)
  exact loop (rmm L b).toNat 0 _ h (by omega) sm.rf cp c (fun _ _ _ => rfl) rfl
theorem v_unpackStrips_24 (hS : h.1 = fx_S0 a pp dd) (qd : pd pp dd) (fm : fxM h) (tr : c3T h) (c : cL h L b) (tg : tagOK L b) (io : inOK L b) (u : cU h L b) (hsc : ov L b 3 = 4) (cp : cP h dd (rg L b) (ov L b 0) (ov L b 1) (fun _ _ => 0)) (k1 : ∀ f2, rdS L b 4 (rg L b) (ov L b 0) (ov L b 1) (ov L b 6) (rmm L b).toNat 0 (fun _ _ => 0) = some f2 → ∀ h2, sm (sU dd) h h2 → cP h2 dd (rg L b) (ov L b 0) (ov L b 1) f2 → cL h2 L b → Q (some (.int (zI 1))) h2) (k0 : rdS L b 4 (rg L b) (ov L b 0) (ov L b 1) (ov L b 6) (rmm L b).toNat 0 (fun _ _ => 0) = none → ∀ h2, sm (sU dd) h h2 → Q (some (.int (zI 0))) h2) : fx_V l M_FP_unpackStrips (0, 0) Q 0 0 42 [some (.ref 0), some (.ref 24), some (.int (zI 0))] [] h := by
  have hB := c.2.2.2.2
  have hlen := c.2.2.2.1
  have hm := tg.m
  have ro := tg.rOK
  have hdd : dd = 27 ∨ dd = 29 := by unfold pd at qd; omega
  have hrg := rg_01 L b
  have hN := cp.2.2.2.2.2.2.2.rb
  have hsg : sOK 4 (rg L b) := ⟨by omega, fun z => by have := tg.2.2.1.2.1; rw [hsc] at this; omega⟩
  have loop : ∀ (m k : Nat) (f : Int → Int → Int) (h2 : fx_H), (k : Int) + m = rmm L b → sm (sU dd) h h2 → cP h2 dd (rg L b) (ov L b 0) (ov L b 1) f → cL h2 L b → (∀ x y, (k : Int) * ov L b 6 ≤ y → f x y = 0) → rdS L b 4 (rg L b) (ov L b 0) (ov L b 1) (ov L b 6) (rmm L b).toNat 0 (fun _ _ => 0) = rdS L b 4 (rg L b) (ov L b 0) (ov L b 1) (ov L b 6) m k f → fx_V l M_FP_unpackStrips (0, 0) Q 0 0 42 [some (.ref 0), some (.ref 24), some (.int (zI (k : Nat)))] [] h2 := by
    intro m
    induction m with
    | zero =>
      intro k f h2 hk m2 p2 c2 hz er
      have u2 : cU h2 L b := u.sm m2 (by omega) (by omega)
      have hS2 := m2.1.trans hS
      refine w_FP_unpackStrips_42_24 hS2 (pA hS2 qd) (pB hS2 qd) (dA hS2 qd) (dB hS2 qd) ?_
      rw [u2.2.2.2.2.2.2]
      exact ⟨by omega, by omega, fun _ => k1 f er h2 m2 p2 c2, fun z => by omega⟩
    | succ m ih =>
      intro k f h2 hk m2 p2 c2 hz er
      have u2 : cU h2 L b := u.sm m2 (by omega) (by omega)
      have hS2 := m2.1.trans hS
      rw [rdS_s] at er
      have v5 := tval_R (b := b) hB (tT L b 5) k
      have v7 := tval_R (b := b) hB (tT L b 7) k
      have vin := io k (by omega)
      have hlt := ro.lt (i := k) (by omega)
      have hr1 : 1 ≤ ov L b 6 := tg.2.2.2.1
      have hk0 : 0 ≤ (k : Int) * ov L b 6 := Int.mul_nonneg (by omega) (by omega)
      have hk1 : ((k : Int) + 1) * ov L b 6 = k * ov L b 6 + ov L b 6 := by rw [Int.add_mul, Int.one_mul]
      have hr6 : ov L b 6 ≤ ov L b 1 := tg.2.2.2.2.1
      have hnn : (k : Int) * ov L b 6 + (nst (ov L b 1) (ov L b 6) k : Nat) = if ((k : Int) + 1) * ov L b 6 < ov L b 1 then ((k : Int) + 1) * ov L b 6 else ov L b 1 := by
        unfold nst
        split <;> omega
      refine w_FP_unpackStrips_42_24 hS2 (pA hS2 qd) (pB hS2 qd) (dA hS2 qd) (dB hS2 qd) ?_
      rw [u2.2.2.2.2.2.2]
      refine ⟨by omega, by omega, fun z => by omega, fun _ => ?_⟩
      refine m_valueOf 5 (by omega) rfl hS2 c2 tg.1.1 u2.1 (by omega) (by omega) (by omega) tg.2.2.2.2.2.1 ⟨_, rfl, rfl, ?_⟩
      refine m_valueOf 7 (by omega) rfl hS2 c2 tg.1.1 u2.1 (by omega) (by omega) (by omega) tg.2.2.2.2.2.2 ⟨_, rfl, rfl, ?_⟩
      refine e_BR_open hS2 ⟨rfl, rfl, ?_⟩
      have mu : sm s3 h2 (fx_uF (fx_uF h2 3 1 (8 * tval L b (tT L b 5) k)) 3 2 (8 * (tval L b (tT L b 5) k + tval L b (tT L b 7) k))) := (sm.uF (P := s3) rfl).tr (sm.uF rfl)
      have cr : cRd (fx_uF (fx_uF h2 3 1 (8 * tval L b (tT L b 5) k)) 3 2 (8 * (tval L b (tT L b 5) k + tval L b (tT L b 7) k))) L b (8 * tval L b (tT L b 5) k) (8 * (tval L b (tT L b 5) k + tval L b (tT L b 7) k)) := ⟨c2.sm mu (by omega) (by omega), by rw [uF_n _ _ (by omega), uF_s], uF_s _ _ _ _, by omega, by omega, by omega⟩
      have m3 : sm (sU dd) h _ := m2.tr (mu.mono fun j q9 => Or.inl q9)
      have u3 : cU _ L b := u.sm m3 (by omega) (by omega)
      rw [u3.2.2.2.1, u3.2.2.2.2.2.1]
      refine ⟨by omega, by omega, ?_⟩
      rw [← hnn]
      have hnt : (k : Int) * ov L b 6 + (nst (ov L b 1) (ov L b 6) k : Nat) ≤ ov L b 1 := by rw [hnn]; split <;> omega
      have ek : (k : Int) + 1 = ((k + 1 : Nat) : Int) := by omega
      refine up_24 (m3.1.trans hS) (fm.sm m3 (by omega) (by omega)) (tr.sm m3 (by omega) (by omega) (by omega)) (p2.sm mu (by omega) (by omega)) cr hsg hz hk0 hnt (fun f2 e2 h4 m4 p4 c4 => ⟨1, rfl, m4.1, by omega, fun _ => ?_, fun z => by omega⟩) (fun e2 h4 m4 => ⟨0, rfl, m4.1, by omega, fun z => absurd rfl z, fun _ => k0 (by simp only [er, e2]) h4 (m3.tr m4)⟩)
      simp only [e2] at er
      rw [ek]
      refine ih (k + 1) f2 h4 (by omega) (m3.tr m4) p4 c4 (fun x y hy => ?_) er
      rw [← ek] at hy
      by_cases hyt : y < ov L b 1
      · rw [stO_out hrg hN.1 e2 x y (Or.inr (by rw [hnn]; split <;> omega))]
        exact hz x y (by omega)
      · have o4 := p4.2.2.2.2.2.2.2.2.2.2.2.2.2.2
        exact o4 x y (by omega)
  exact loop (rmm L b).toNat 0 _ h (by omega) sm.rf cp c (fun _ _ _ => rfl) rfl
/-- places that reading changes, the tags aside -/
abbrev sR (dd : Nat) : Nat → Prop := fun j => j = 3 ∨ (16 ≤ j ∧ j ≤ 22) ∨ j = dd ∨ j = dd + 1
theorem m_unpackStrips (hS : h.1 = fx_S0 a pp dd) (qd : pd pp dd) (fm : fxM h) (tr : c3T h) (c : cL h L b) (tg : tagOK L b) (io : inOK L b) (u : cU h L b) (dok : fp_ok h dd) (k1 : ∀ f2, rdS L b (ov L b 3) (rg L b) (ov L b 0) (ov L b 1) (ov L b 6) (rmm L b).toNat 0 (fun _ _ => 0) = some f2 → ∀ h2, sm (sR dd) h h2 → cP h2 dd (rg L b) (ov L b 0) (ov L b 1) f2 → Q (some (.int (zI 1))) h2) (k0 : rdS L b (ov L b 3) (rg L b) (ov L b 0) (ov L b 1) (ov L b 6) (rmm L b).toNat 0 (fun _ _ => 0) = none → ∀ h2, sm (sR dd) h h2 → fp_ok h2 dd → Q (some (.int (zI 0))) h2) : fx_Mt l M_FP_unpackStrips (0, 0) [.ref 0] h Q := by
  have hdd : dd = 27 ∨ dd = 29 := by unfold pd at qd; omega
  have hrg := rg_01 L b
  have hsz := tg.2.1.2.2
  unfold szOK at hsz
  have ok0 : pOK (rg L b) (ov L b 0) (ov L b 1) (fun _ _ => 0) := by
    rcases hrg with z | z
    · rw [z] at hsz ⊢
      simp only [if_true] at hsz
      exact pOK0 (Or.inl rfl) (by omega) (by omega) (by omega) (by omega) (by omega)
    · rw [z] at hsz ⊢
      rw [if_neg (by omega), if_neg (by omega)] at hsz
      exact pOK0 (Or.inr rfl) (by omega) (by omega) (by omega) (by omega) (by omega)
  have hsc := tg.2.2.1.1
  unfold isSc at hsc
  refine e_FP_unpackStrips hS (pA hS qd) (pB hS qd) (dA hS qd) (dB hS qd) ?_
  rw [u.2.2.2.2.1]
  have go : ∀ q3 : Nat, (∀ h2, sm (fun j => j = dd ∨ j = dd + 1) h h2 → cP h2 dd (rg L b) (ov L b 0) (ov L b 1) (fun _ _ => 0) → fx_V l M_FP_unpackStrips (0, 0) Q 0 0 42 [some (.ref 0), some (.ref q3), some (.int (zI 0))] [] h2) → fx_Mt l M_PI_clear (0, 0) [.ref dd, .int (zI (h.2.1 11 2)), .int (zI (h.2.1 11 3)), .int (zI (h.2.1 11 4))] h (fun v h4 => v = none ∧ h4.1 = h.1 ∧ (fx_V l M_FP_unpackStrips (0, 0) Q 0 0 42 [some (.ref 0), some (.ref q3), some (.int (zI 0))] [] h4)) := by
    intro q3 kq
    rw [u.2.1, u.2.2.1, u.2.2.2.1]
    refine m_clear dok hrg fun h2 m2 g1 g2 g3 g4 => ⟨rfl, m2.1, kq h2 m2 ⟨⟨?_, ?_, ?_, ?_, ?_, ?_, ?_⟩, fun i hi => ?_, by omega, g1, g2, g3, fun x y => ?_, ok0⟩⟩
    · rw [m2.1]; exact dok.1
    · rw [m2.1]; exact dok.2.1
    · rw [g1]; exact hrg
    · rw [g2]; exact ok0.2.1
    · rw [g2]; exact ok0.2.2.1
    · rw [g3]; exact ok0.2.2.2.1
    · rw [g3]; exact ok0.2.2.2.2.1
    · rw [g4 i hi]; split <;> omega
    · unfold fp_px
      split
      · rename_i hin
        obtain ⟨w1, w2⟩ := fp_mul hin.1 hin.2.1 hin.2.2.1 hin.2.2.2 (by rw [g2]; exact ok0.2.2.1) (by rw [g3]; exact ok0.2.2.2.2.1)
        exact g4 _ (by omega)
      · rfl
  have toR : ∀ {h2 h3 : fx_H}, sm (fun j => j = dd ∨ j = dd + 1) h h2 → sm (sU dd) h2 h3 → sm (sR dd) h h3 := fun m2 m3 => (m2.mono fun j q => by omega).tr (m3.mono fun j q => by omega)
  have okd : ∀ {h2 h3 : fx_H} {f : Int → Int → Int}, cP h2 dd (rg L b) (ov L b 0) (ov L b 1) f → sm (sU dd) h2 h3 → fp_ok h3 dd := fun p2 m3 => m3.pic p2.1 (by omega)
  refine e_FP_packingOf hS (pA hS qd) (pB hS qd) (dA hS qd) (dB hS qd) ⟨by omega, fun z => ⟨23, rfl, by omega, rfl, go 23 fun h2 m2 p2 => ?_⟩, fun z => ⟨24, rfl, by omega, rfl, go 24 fun h2 m2 p2 => ?_⟩, fun z => ⟨16, rfl, by omega, rfl, go 16 fun h2 m2 p2 => ?_⟩, fun z => ⟨14, rfl, by omega, rfl, go 14 fun h2 m2 p2 => ?_⟩, fun z1 z2 z3 z4 => ⟨13, rfl, by omega, rfl, go 13 fun h2 m2 p2 => ?_⟩⟩
  · rw [z] at k1 k0
    exact v_unpackStrips_23 (m2.1.trans hS) qd (fm.sm m2 (by omega) (by omega)) (tr.sm m2 (by omega) (by omega) (by omega)) (c.sm m2 (by omega) (by omega)) tg io (u.sm m2 (by omega) (by omega)) z p2 (fun f2 e2 h3 m3 p3 c3 => k1 f2 e2 h3 (toR m2 m3) p3) (fun e2 h3 m3 => k0 e2 h3 (toR m2 m3) (okd p2 m3))
  · rw [z] at k1 k0
    exact v_unpackStrips_24 (m2.1.trans hS) qd (fm.sm m2 (by omega) (by omega)) (tr.sm m2 (by omega) (by omega) (by omega)) (c.sm m2 (by omega) (by omega)) tg io (u.sm m2 (by omega) (by omega)) z p2 (fun f2 e2 h3 m3 p3 c3 => k1 f2 e2 h3 (toR m2 m3) p3) (fun e2 h3 m3 => k0 e2 h3 (toR m2 m3) (okd p2 m3))
  · rw [z] at k1 k0
    exact v_unpackStrips_16 (m2.1.trans hS) qd (fm.sm m2 (by omega) (by omega)) (tr.sm m2 (by omega) (by omega) (by omega)) (c.sm m2 (by omega) (by omega)) tg io (u.sm m2 (by omega) (by omega)) z p2 (fun f2 e2 h3 m3 p3 c3 => k1 f2 e2 h3 (toR m2 m3) p3) (fun e2 h3 m3 => k0 e2 h3 (toR m2 m3) (okd p2 m3))
  · rw [z] at k1 k0
    exact v_unpackStrips_14 (m2.1.trans hS) qd (fm.sm m2 (by omega) (by omega)) (tr.sm m2 (by omega) (by omega) (by omega)) (c.sm m2 (by omega) (by omega)) tg io (u.sm m2 (by omega) (by omega)) z p2 (fun f2 e2 h3 m3 p3 c3 => k1 f2 e2 h3 (toR m2 m3) p3) (fun e2 h3 m3 => k0 e2 h3 (toR m2 m3) (okd p2 m3))
  · have z : ov L b 3 = 1 := by omega
    rw [z] at k1 k0
    exact v_unpackStrips_13 (m2.1.trans hS) qd (fm.sm m2 (by omega) (by omega)) (tr.sm m2 (by omega) (by omega) (by omega)) (c.sm m2 (by omega) (by omega)) tg io (u.sm m2 (by omega) (by omega)) z p2 (fun f2 e2 h3 m3 p3 c3 => k1 f2 e2 h3 (toR m2 m3) p3) (fun e2 h3 m3 => k0 e2 h3 (toR m2 m3) (okd p2 m3))
end US
