/-! the strips of a file: the reference -/
abbrev iA : Nat → Prop := fun j => j = 34 ∨ (36 ≤ j ∧ j ≤ 40)
abbrev iF : Nat → Prop := fun k => k = 20 ∨ k = 21 ∨ k = 22 ∨ k = 27 ∨ k = 28
theorem fxS_01 {L : List Int} {e w mk top : Int} : ∀ {n : Nat} {p y : Int} {f : Int → Int → Int} {q : Int} {f2 : Int → Int → Int}, (∀ x v, f x v = 0 ∨ f x v = 1) → fxS L e w mk top n p y f = some (q, f2) → ∀ x v, f2 x v = 0 ∨ f2 x v = 1
  | 0, p, y, f, q, f2, h0, h => by
    unfold fxS at h
    injection h with h
    injection h with h1 h2
    rw [← h2]; exact h0
  | n + 1, p, y, f, q, f2, h0, h => by
    unfold fxS at h
    split at h
    · exact absurd h (by simp)
    · rename_i q1 r h1
      refine fxS_01 (fun x v => ?_) h
      unfold row
      split
      · exact ln1_01 h1 x
      · exact h0 x v
theorem fxO_01 {L : List Int} {e w mk top p : Int} {n : Nat} {f f2 : Int → Int → Int} (h0 : ∀ x v, f x v = 0 ∨ f x v = 1) (h : fxO L e w mk top n p f = some f2) : ∀ x v, f2 x v = 0 ∨ f2 x v = 1 := by
  unfold fxO at h
  split at h
  · exact absurd h (by simp)
  · rename_i q f3 h1
    have := (opt_some h).2
    subst this
    exact fxS_01 h0 h1
theorem stO_01 {L : List Int} {sc g w top p e : Int} {n : Nat} {f f2 : Int → Int → Int} (hsc : sc = 3 ∨ sc = 4) (h0 : ∀ x v, f x v = 0 ∨ f x v = 1) (h : stO L sc g w top n p e f = some f2) : ∀ x v, f2 x v = 0 ∨ f2 x v = 1 := by
  unfold stO at h
  rcases hsc with z | z
  · rw [if_pos z] at h; exact fxO_01 h0 h
  · rw [if_neg (by omega), if_pos z] at h; exact fxO_01 h0 h
theorem rnS_isB {L : List Int} {e N : Int} {T : Nat} : ∀ {m : Nat} {p : Int} {B : List Int} {q : Int} {B2 : List Int}, isB B → rnS L e N T m p B = some (q, B2) → isB B2
  | 0, p, B, q, B2, h0, h => by simp [rnS] at h
  | m + 1, p, B, q, B2, h0, h => by
    unfold rnS at h
    split at h
    · injection h with h; injection h with h1 h2; rw [← h2]; exact h0
    · split at h
      · exact absurd h (by simp)
      · split at h
        · exact rnS_isB h0 h
        · split at h
          · split at h
            · exact absurd h (by simp)
            · exact rnS_isB (h0.app (byts_isB L _ _)) h
          · split at h
            · exact absurd h (by simp)
            · exact rnS_isB (h0.app (rep_isB (bn8_R L _) _)) h
section IS
variable {l : Launch} {Q : Option Value → fx_H → Prop} {h : fx_H} {a : Nat → Nat} {pp dd : Nat} {L : List Int} {b p e : Int} {g w t top sc rows : Int} {f : Int → Int → Int}
theorem mL.toB (c : mL h L b) {z : Int} (hp : h.2.1 31 20 = p) (he : h.2.1 31 21 = e) (hz : h.2.1 31 22 = z) (z01 : z = 0 ∨ z = 1) (h0 : 0 ≤ p) (h1 : p ≤ e) (h2 : e ≤ 8 * L.length) : mB h L p e z := ⟨hp, he, hz, z01, h0, h1, h2, c.2.2.2.1, c.2.2.2.2, c.1.2.2.2⟩
theorem m_rowsOf {k : Nat} (hS : h.1 = fx_S0 a pp dd) (ht : t ≤ 24) (hr : 1 ≤ rows) (hr2 : rows ≤ t) (hk : (k : Int) * rows < t) (kk : Q (some (.int (zI ((nst t rows k : Nat) : Int)))) h) : fx_Mt l M_MO_rowsOf (0, 0) [.int (zI (k : Nat)), .int (zI t), .int (zI rows)] h Q := by
  have h0 : 0 ≤ (k : Int) * rows := Int.mul_nonneg (by omega) (by omega)
  have h1 : ((k : Int) + 1) * rows = k * rows + rows := by rw [Int.add_mul, Int.one_mul]
  have e1 : ((nst t rows k : Nat) : Int) = if rows ≤ t - k * rows then rows else t - k * rows := by
    unfold nst
    rw [h1]
    by_cases q1 : (k : Int) * rows + rows < t
    · rw [if_pos q1, if_pos (by omega)]; omega
    · rw [if_neg q1]
      split <;> omega
  refine e_MO_rowsOf hS ⟨by omega, by omega, fun q => ?_, fun q => ?_⟩
  · rw [e1, if_pos q] at kk; exact kk
  · rw [e1, if_neg q] at kk; exact kk
theorem m_inStrip {k : Nat} (hS : h.1 = fx_S0 a pp dd) (mc : mC h) (c : mL h L b) (tg : tagOK L b) (io : inOK L b) (t9 : mT9 h L b (tmany L b)) (hk : (k : Int) < rmm L b) (hbad : h.2.1 31 22 = 0) (hg : h.2.1 31 14 = rg L b) (hw : h.2.1 31 15 = ov L b 0) (ht : h.2.1 31 16 = ov L b 1) (hsc : h.2.1 31 12 = ov L b 3) (hro : h.2.1 31 13 = ov L b 6) (fneg : ∀ x, f x (-1) = 0) (f01 : (ov L b 3 = 3 ∨ ov L b 3 = 4) → ∀ x y, f x y = 0 ∨ f x y = 1) (mg : mG h (ov L b 0) f (k * ov L b 6))
    (k1 : ∀ f2, stO L (ov L b 3) (rg L b) (ov L b 0) (k * ov L b 6) (nst (ov L b 1) (ov L b 6) k) (8 * tval L b (tT L b 5) k) (8 * (tval L b (tT L b 5) k + tval L b (tT L b 7) k)) f = some f2 → ∀ h2, mo iA iF h h2 → h2.2.1 31 22 = 0 → mG h2 (ov L b 0) f2 (k * ov L b 6 + (nst (ov L b 1) (ov L b 6) k : Nat)) → Q none h2)
    (k0 : stO L (ov L b 3) (rg L b) (ov L b 0) (k * ov L b 6) (nst (ov L b 1) (ov L b 6) k) (8 * tval L b (tT L b 5) k) (8 * (tval L b (tT L b 5) k + tval L b (tT L b 7) k)) f = none → ∀ h2, mo iA iF h h2 → h2.2.1 31 22 = 1 → Q none h2) : fx_Mt l M_MO_inStrip (0, 0) [.ref 31, .int (zI (k : Nat))] h Q := by
  have hB := c.2.2.2.2
  have hlen := c.2.2.2.1
  have hm := tg.m
  have ro := tg.rOK
  have hrg := rg_01 L b
  have hr1 : 1 ≤ ov L b 6 := tg.2.2.2.1
  have hr6 : ov L b 6 ≤ ov L b 1 := tg.2.2.2.2.1
  have hlt := ro.lt (i := k) (by omega)
  have hk0 : 0 ≤ (k : Int) * ov L b 6 := Int.mul_nonneg (by omega) (by omega)
  have hk1 : ((k : Int) + 1) * ov L b 6 = k * ov L b 6 + ov L b 6 := by rw [Int.add_mul, Int.one_mul]
  have v5 := tval_R (b := b) hB (tT L b 5) k
  have v7 := tval_R (b := b) hB (tT L b 7) k
  have vin := io k hk
  have hsz := tg.2.1.2.2
  unfold szOK at hsz
  have sz : 1 ≤ ov L b 0 ∧ ov L b 0 ≤ 40 ∧ 1 ≤ ov L b 1 ∧ ov L b 1 ≤ 24 ∧ (rg L b = 1 → ov L b 0 ≤ 20 ∧ ov L b 1 ≤ 20) := by
    rcases hrg with z | z
    · rw [z] at hsz ⊢
      simp only [if_true] at hsz
      omega
    · rw [z] at hsz ⊢
      rw [if_neg (by omega), if_neg (by omega)] at hsz
      omega
  have ok0 : pOK (rg L b) (ov L b 0) (ov L b 1) (fun _ _ => 0) := pOK0 hrg sz.1 sz.2.1 sz.2.2.1 sz.2.2.2.1 sz.2.2.2.2
  have hN := ok0.rb
  obtain ⟨n, hn⟩ : ∃ n, nst (ov L b 1) (ov L b 6) k = n := ⟨_, rfl⟩
  have hnt : (k : Int) * ov L b 6 + n ≤ ov L b 1 := by
    rw [← hn]
    unfold nst
    split <;> omega
  have hT4 := ok0.T4 (top := k * ov L b 6) (bot := k * ov L b 6 + n) hk0 (by omega) hnt
  have eT : (k : Int) * ov L b 6 + n - k * ov L b 6 = n := by omega
  rw [eT] at hT4
  have hTm := T_mod (n := n) hN.1
  obtain ⟨T, hT⟩ : ∃ T, n * (rbn (rg L b) (ov L b 0)).toNat = T := ⟨_, rfl⟩
  rw [hT] at hTm
  rw [hn] at k1 k0
  have hsc5 := tg.2.2.1.1
  unfold isSc at hsc5
  have tq : ∀ j : Nat, (j = 5 ∨ j = 7) → mTk h L b j (tT L b j) ∧ hv L b (tT L b j) (rmm L b) := by
    intro j hj
    have hw9 : hv L b (tT L b j) (rmm L b) := by
      rcases hj with rfl | rfl
      · exact tg.2.2.2.2.2.1
      · exact tg.2.2.2.2.2.2
    exact ⟨(t9 j (by omega)).2 hw9.1, hw9⟩
  have val : ∀ (j : Nat) (h2 : fx_H) {Q2 : Option Value → fx_H → Prop} (PF : Nat → Prop), (j = 5 ∨ j = 7) → mo fN PF h h2 → mL h2 L b → Q2 (some (.long (zL (tval L b (tT L b j) k)))) h2 → fx_Mt l M_MO_value (0, 0) [.ref 31, .int (zI (j : Nat)), .int (zI (k : Nat))] h2 Q2 := by
    intro j h2 Q2 PF hj m2 c2 kq
    obtain ⟨q1, q2⟩ := tq j hj
    have hTr := tT_R hB tg.1.1 j
    have hvv := hv_vp hB hTr q2 (i := k) (by omega) hk (by omega)
    exact m_valueM j (by omega) (m2.S.trans hS) c2 (q1.mo m2) (by omega) (by omega) (vp_nn hB (by omega)) (by omega) kq
  refine e_MO_inStrip hS ?_
  rw [ht, hro]
  refine m_rowsOf hS (by omega) hr1 hr6 hlt ⟨_, rfl, rfl, ?_⟩
  rw [hn]
  refine m_MOrb hS hg hw hrg sz.1 sz.2.1 ⟨_, rfl, rfl, ?_⟩
  refine val 5 h (fun k => k < 0) (Or.inl rfl) mo.rf c ⟨_, rfl, rfl, ?_⟩
  have mu1 : mo fN (fun k => k = 20) h (fx_uF h 31 20 (8 * tval L b (tT L b 5) k)) := mo.uF rfl
  refine val 7 _ _ (Or.inr rfl) mu1 (c.mo mu1 (by omega) (by omega) (by omega) (by omega) (by omega)) ⟨_, rfl, rfl, ?_⟩
  have eE : 8 * tval L b (tT L b 5) k + 8 * tval L b (tT L b 7) k = 8 * (tval L b (tT L b 5) k + tval L b (tT L b 7) k) := by omega
  have f12 : (fx_uF h 31 20 (8 * tval L b (tT L b 5) k)).2.1 31 12 = ov L b 3 := by rw [uF_n _ _ (by omega)]; exact hsc
  have f20 : (fx_uF h 31 20 (8 * tval L b (tT L b 5) k)).2.1 31 20 = 8 * tval L b (tT L b 5) k := uF_s _ _ _ _
  rw [f12, f20, eE]
  have mu3 : mo fN (fun k => k = 20 ∨ k = 21 ∨ k = 27) h (fx_uF (fx_uF (fx_uF h 31 20 (8 * tval L b (tT L b 5) k)) 31 21 (8 * (tval L b (tT L b 5) k + tval L b (tT L b 7) k))) 31 27 0) := ((mo.uF (Or.inl rfl)).tr (mo.uF (Or.inr (Or.inl rfl)))).tr (mo.uF (Or.inr (Or.inr rfl)))
  obtain ⟨h3, eh3⟩ : ∃ h3, (fx_uF (fx_uF (fx_uF h 31 20 (8 * tval L b (tT L b 5) k)) 31 21 (8 * (tval L b (tT L b 5) k + tval L b (tT L b 7) k))) 31 27 0) = h3 := ⟨_, rfl⟩
  have g20 : h3.2.1 31 20 = 8 * tval L b (tT L b 5) k := by rw [← eh3, uF_n _ _ (by omega), uF_n _ _ (by omega), uF_s]
  have g21 : h3.2.1 31 21 = 8 * (tval L b (tT L b 5) k + tval L b (tT L b 7) k) := by rw [← eh3, uF_n _ _ (by omega), uF_s]
  have g27 : h3.2.1 31 27 = 0 := by rw [← eh3, uF_s]
  rw [eh3] at mu3 ⊢
  have m3 : mo iA iF h h3 := mu3.mono (fun j q => by omega) (fun k q => by omega)
  have hS3 := m3.S.trans hS
  have c3 : mL h3 L b := c.mo mu3 (by omega) (by omega) (by omega) (by omega) (by omega)
  have b3 : mB h3 L (8 * tval L b (tT L b 5) k) (8 * (tval L b (tT L b 5) k + tval L b (tT L b 7) k)) 0 := c3.toB g20 g21 ((mu3.2 22 (by omega)).trans hbad) (Or.inl rfl) (by omega) (by omega) (by omega)
  have s3 : mS h3 [] := ⟨g27, fun i hi => by simp at hi⟩
  have G3 : mG h3 (ov L b 0) f (k * ov L b 6) := mg.mo mu3 (by omega)
  have gf : ∀ {h4 : fx_H}, mo iA iF h h4 → h4.2.1 31 14 = rg L b := fun m4 => (m4.2 14 (by omega)).trans hg
  have wf : ∀ {h4 : fx_H}, mo iA iF h h4 → h4.2.1 31 15 = ov L b 0 := fun m4 => (m4.2 15 (by omega)).trans hw
  have eRT : rbn (rg L b) (ov L b 0) * (n : Int) = (T : Int) := by rw [hTm.1, Int.mul_comm]
  rw [eRT]
  -- bytes are spread
  have spr : ∀ (h4 : fx_H) (p4 : Int) (B : List Int), mo iA iF h h4 → mB h4 L p4 (8 * (tval L b (tT L b 5) k + tval L b (tT L b 7) k)) 0 → mS h4 B → isB B → B.length = T → mG h4 (ov L b 0) f (k * ov L b 6) → (flA (rg L b) (ov L b 0) B → stO L (ov L b 3) (rg L b) (ov L b 0) (k * ov L b 6) n (8 * tval L b (tT L b 5) k) (8 * (tval L b (tT L b 5) k + tval L b (tT L b 7) k)) f = some (dF (rg L b) (ov L b 0) f (k * ov L b 6) B)) → (¬ flA (rg L b) (ov L b 0) B → stO L (ov L b 3) (rg L b) (ov L b 0) (k * ov L b 6) n (8 * tval L b (tT L b 5) k) (8 * (tval L b (tT L b 5) k + tval L b (tT L b 7) k)) f = none) → fx_Mt l M_MO_spread (0, 0) [.ref 31, .int (zI (k * ov L b 6)), .int (zI (n : Nat))] h4 (fun v h24 => v = none ∧ h24.1 = h4.1 ∧ Q none h24) := by
    intro h4 p4 B m4 b4 s4 hBB hBl G4 y1 y0
    refine m_spread (m4.S.trans hS) (gf m4) (wf m4) hrg sz.1 sz.2.1 hN.1 b4 s4 hBB hk0 (by omega) (by rw [eRT]; omega) (by omega) G4 (fun fl h5 m5 b5 G5 => ⟨rfl, m5.S, k1 _ (y1 fl) h5 (m4.tr (m5.mono (fun j q => by omega) (fun k q => by omega))) b5.2.2.1 G5⟩) (fun fl h5 m5 b5 => ⟨rfl, m5.S, k0 (y0 fl) h5 (m4.tr (m5.mono (fun j q => by omega) (fun k q => by omega))) b5.2.2.1⟩)
  have vI : ∀ {h4 h5 : fx_H}, mo vA vF h4 h5 → mo iA iF h4 h5 := fun m => m.mono (fun j q => by omega) (fun k q => by omega)
  have xI : ∀ {h4 h5 : fx_H}, mo xR rF h4 h5 → mo iA iF h4 h5 := fun m => m.mono (fun j q => by omega) (fun k q => by omega)
  refine ⟨by omega, fun z3 => ?_, fun z3 => ⟨fun z4 => ⟨fun z1 => ⟨fun z5 => ?_, fun z5 => ?_⟩, fun z1 => ?_⟩, fun z4 => ?_⟩⟩
  · have eo : ∀ f9 : Int → Int → Int, stO L (ov L b 3) (rg L b) (ov L b 0) (k * ov L b 6) n (8 * tval L b (tT L b 5) k) (8 * (tval L b (tT L b 5) k + tval L b (tT L b 7) k)) f9 = fxO L (8 * (tval L b (tT L b 5) k + tval L b (tT L b 7) k)) (ov L b 0) 1 (k * ov L b 6) n (8 * tval L b (tT L b 5) k) f9 := fun f9 => by unfold stO; rw [if_pos z3]
    rw [eo] at k1 k0
    exact m_inFax hS3 (mc.mo m3 (by omega)) b3 (wf m3) sz.1 sz.2.1 ((m3.2 12 (by omega)).trans hsc) (Or.inl z3) (by rw [if_pos z3]) hk0 (by omega) (f01 (Or.inl z3)) fneg G3 (fun f2 e2 h4 q m4 b4 G4 => ⟨rfl, m4.S, k1 f2 e2 h4 (m3.tr (xI m4)) b4.2.2.1 G4⟩) (fun e2 h4 p4 m4 b4 => ⟨rfl, m4.S, k0 e2 h4 (m3.tr (xI m4)) b4.2.2.1⟩)
  · have z9 : ov L b 3 = 32773 := by omega
    have eo : stO L (ov L b 3) (rg L b) (ov L b 0) (k * ov L b 6) n (8 * tval L b (tT L b 5) k) (8 * (tval L b (tT L b 5) k + tval L b (tT L b 7) k)) f = rnO L (8 * (tval L b (tT L b 5) k + tval L b (tT L b 7) k)) (rg L b) (ov L b 0) (k * ov L b 6) T (8 * tval L b (tT L b 5) k) f := by unfold stO; rw [if_neg z3, if_neg z4, if_neg z5, if_pos z9, hT]
    refine m_inRuns hS3 (gf m3) (wf m3) hrg sz.1 sz.2.1 rfl hN.1 (by omega) b3 s3 (by omega) hTm.2 (fun B eB h4 m4 b4 s4 => ⟨rfl, m4.S, ?_⟩) (fun lost h4 p4 m4 b4 => ⟨rfl, m4.S, ?_⟩)
    · rw [b4.2.2.1]
      refine ⟨by omega, fun u => absurd rfl u, fun _ => spr h4 _ B (m3.tr (vI m4)) b4 s4 (rnS_isB isB_nil eB) (rnS_len hN.1 hTm.2 (by simp) eB) (G3.mo m4 (by omega)) (fun fl => ?_) (fun fl => ?_)⟩
      · rw [eo]; unfold rnO; simp only [eB]; exact opt_pos ⟨trivial, fl⟩ _
      · rw [eo]; unfold rnO; simp only [eB]; exact opt_neg (fun u => fl u.2) _
    · rw [b4.2.2.1]
      refine ⟨by omega, fun _ => k0 ?_ h4 (m3.tr (vI m4)) b4.2.2.1, fun u => by omega⟩
      rw [eo]; unfold rnO
      split
      · rfl
      · rename_i q9 B9 u9
        refine opt_neg (fun u => lost B9 ?_) _
        rw [u9, u.1]
  · have eo : stO L (ov L b 3) (rg L b) (ov L b 0) (k * ov L b 6) n (8 * tval L b (tT L b 5) k) (8 * (tval L b (tT L b 5) k + tval L b (tT L b 7) k)) f = tbO L (8 * (tval L b (tT L b 5) k + tval L b (tT L b 7) k)) (rg L b) (ov L b 0) (k * ov L b 6) T (8 * tval L b (tT L b 5) k) f := by unfold stO; rw [if_neg z3, if_neg z4, if_pos z5, hT]
    refine m_inTable hS3 b3 s3 (by omega) (fun q B eB hBB h4 m4 b4 s4 => ⟨rfl, m4.S, ?_⟩) (fun lost h4 p4 m4 b4 => ⟨rfl, m4.S, ?_⟩)
    · rw [b4.2.2.1]
      obtain ⟨w1, w2, w3, w4⟩ := eB
      refine ⟨by omega, fun u => absurd rfl u, fun _ => spr h4 _ B (m3.tr (vI m4)) b4 s4 hBB w3 (G3.mo m4 (by omega)) (fun fl => ?_) (fun fl => ?_)⟩
      · rw [eo]; unfold tbO; rw [if_neg (by omega)]; simp only [w2]; exact opt_pos ⟨w3, w4, fl⟩ _
      · rw [eo]; unfold tbO; rw [if_neg (by omega)]; simp only [w2]; exact opt_neg (fun u => fl u.2.2) _
    · rw [b4.2.2.1]
      refine ⟨by omega, fun _ => k0 ?_ h4 (m3.tr (vI m4)) b4.2.2.1, fun u => by omega⟩
      rw [eo]; unfold tbO
      split
      · rfl
      · rename_i hq
        split
        · rfl
        · rename_i q9 B9 u9
          refine opt_neg (fun u => lost q9 B9 ⟨⟨?_, ?_⟩, u9, u.1, u.2.1⟩) _
          · by_cases q8 : 8 * (tval L b (tT L b 5) k + tval L b (tT L b 7) k) < 8 * tval L b (tT L b 5) k + 9
            · exact absurd (Or.inl q8) hq
            · omega
          · by_cases q8 : bn L (8 * tval L b (tT L b 5) k) 9 = 256
            · exact q8
            · exact absurd (Or.inr q8) hq
  · have eo : stO L (ov L b 3) (rg L b) (ov L b 0) (k * ov L b 6) n (8 * tval L b (tT L b 5) k) (8 * (tval L b (tT L b 5) k + tval L b (tT L b 7) k)) f = plO L (8 * (tval L b (tT L b 5) k + tval L b (tT L b 7) k)) (rg L b) (ov L b 0) (k * ov L b 6) T (8 * tval L b (tT L b 5) k) f := by unfold stO; rw [if_neg z3, if_neg z4, if_neg (by omega), if_neg (by omega), hT]
    refine ⟨by omega, by omega, fun u => m_needF hS3 b3 fun h4 m4 b4 => ⟨_, rfl, m4.S, ?_⟩, fun u => m_needT hS3 b3 fun h4 m4 b4 => ⟨_, rfl, m4.S, ?_⟩⟩
    · have s4 : mS h4 [] := s3.mo m4 (by omega) (by omega)
      have lost : stO L (ov L b 3) (rg L b) (ov L b 0) (k * ov L b 6) n (8 * tval L b (tT L b 5) k) (8 * (tval L b (tT L b 5) k + tval L b (tT L b 7) k)) f = none := by rw [eo]; unfold plO; exact opt_neg (fun u2 => u (by have := u2.1; omega)) _
      have m34 : mo iA iF h h4 := m3.tr (vI m4.v)
      refine w_MO_inStrip_125 (m34.S.trans hS) ?_
      rw [s4.1, b4.2.2.1]
      refine ⟨by rw [List.length_nil]; omega, by omega, fun _ => ⟨by omega, fun _ => k0 lost h4 m34 b4.2.2.1, fun u2 => by omega⟩, fun _ => ⟨by omega, fun _ => ⟨fun _ => k0 lost h4 m34 b4.2.2.1, fun u2 => by omega⟩, fun u2 => by omega⟩⟩
    · have loop : ∀ (m j : Nat) (h5 : fx_H), j + m = T → mo iA iF h h5 → mB h5 L (8 * tval L b (tT L b 5) k + 8 * j) (8 * (tval L b (tT L b 5) k + tval L b (tT L b 7) k)) 0 → mS h5 (byts L (8 * tval L b (tT L b 5) k) j) → mG h5 (ov L b 0) f (k * ov L b 6) → fx_V l M_MO_inStrip (0, 0) Q 0 0 125 [some (.ref 31), none, some (.int (zI (k * ov L b 6))), some (.int (zI (n : Nat))), some (.int (zI (T : Nat)))] [] h5 := by
        intro m
        induction m with
        | zero =>
          intro j h5 hj m5 b5 s5 G5
          have ej : j = T := by omega
          subst ej
          refine w_MO_inStrip_125 (m5.S.trans hS) ?_
          rw [s5.1, b5.2.2.1, byts_len]
          refine ⟨by omega, by omega, fun _ => ⟨by omega, fun u2 => absurd rfl u2, fun _ => spr h5 _ _ m5 b5 s5 (byts_isB L _ _) (byts_len L _ _) G5 (fun fl => ?_) (fun fl => ?_)⟩, fun u2 => absurd (Int.le_refl _) u2⟩
          · rw [eo]; unfold plO; exact opt_pos ⟨by omega, fl⟩ _
          · rw [eo]; unfold plO; exact opt_neg (fun u2 => fl u2.2) _
        | succ m ih =>
          intro j h5 hj m5 b5 s5 G5
          refine w_MO_inStrip_125 (m5.S.trans hS) ?_
          rw [s5.1, b5.2.2.1, byts_len]
          refine ⟨by omega, by omega, fun u2 => by omega, fun _ => ⟨by omega, fun u2 => absurd rfl u2, fun _ => m_inByte (m5.S.trans hS) b5 (fun _ u8 h6 m6 b6 => ⟨_, rfl, m6.S, ?_⟩) (fun u8 => by omega)⟩⟩
          have m56 := m5.tr (vI m6.v)
          refine m_store (m56.S.trans hS) (s5.mo m6 (by omega) (by omega)) b6 (by rw [byts_len]; omega) fun h7 m7 s7 b7 => ⟨rfl, m7.S, ?_⟩
          have e9 : 8 * tval L b (tT L b 5) k + 8 * (j : Int) + 8 = 8 * tval L b (tT L b 5) k + 8 * ((j + 1 : Nat) : Int) := by omega
          rw [e9] at b7
          exact ih (j + 1) h7 (by omega) (m56.tr (vI m7)) b7 s7 ((G5.mo m6 (by omega)).mo m7 (by omega))
      exact loop T 0 h4 (by omega) (m3.tr (vI m4.v)) (by simpa using b4) (s3.mo m4 (by omega) (by omega)) (G3.mo m4 (by omega))
  · have eo : ∀ f9 : Int → Int → Int, stO L (ov L b 3) (rg L b) (ov L b 0) (k * ov L b 6) n (8 * tval L b (tT L b 5) k) (8 * (tval L b (tT L b 5) k + tval L b (tT L b 7) k)) f9 = fxO L (8 * (tval L b (tT L b 5) k + tval L b (tT L b 7) k)) (ov L b 0) 0 (k * ov L b 6) n (8 * tval L b (tT L b 5) k) f9 := fun f9 => by unfold stO; rw [if_neg z3, if_pos z4]
    rw [eo] at k1 k0
    exact m_inFax hS3 (mc.mo m3 (by omega)) b3 (wf m3) sz.1 sz.2.1 ((m3.2 12 (by omega)).trans hsc) (Or.inr z4) (by rw [if_neg (by omega)]) hk0 (by omega) (f01 (Or.inr z4)) fneg G3 (fun f2 e2 h4 q m4 b4 G4 => ⟨rfl, m4.S, k1 f2 e2 h4 (m3.tr (xI m4)) b4.2.2.1 G4⟩) (fun e2 h4 p4 m4 b4 => ⟨rfl, m4.S, k0 e2 h4 (m3.tr (xI m4)) b4.2.2.1⟩)
end IS
