/-! the reference spreads bytes into pixels -/
abbrev sA : Nat → Prop := fun j => j = 34
def ixv (g w top x v : Int) : Int := (v - top) * rbn g w + bix g x
/-- the fresh picture holds what the bytes before k paint, and i bits of byte k -/
def mQ (h : fx_H) (g w : Int) (f : Int → Int → Int) (top : Int) (B : List Int) (k i : Int) : Prop := ∀ x v : Int, 0 ≤ x → x < w → 0 ≤ v → (v < top ∨ ixv g w top x v < k ∨ (ixv g w top x v = k ∧ g = 0 ∧ x % 8 < i)) → h.2.2.1 34 (w * v + x).toNat = dF g w f top B x v
theorem ixv_eq {g w top x v d r k : Int} (hg : g = 0 ∨ g = 1) (hx : 0 ≤ x) (hxw : x < w) (hr : 0 ≤ r) (hr2 : r < rbn g w) (hk : rbn g w * d + r = k) : ixv g w top x v = k ↔ (v = top + d ∧ bix g x = r) := by
  have hb := bix_R hg hx hxw
  have e1 : rbn g w * d = d * rbn g w := Int.mul_comm _ _
  unfold ixv
  rw [← hk, e1]
  constructor
  · intro h
    have k1 := (row_inj (y := v - top) (i := bix g x) (y2 := d) (i2 := r) hb.1 hb.2 hr hr2).mp (by omega)
    have k2 := (row_inj (y := d) (i := r) (y2 := v - top) (i2 := bix g x) hr hr2 hb.1 hb.2).mp (by omega)
    omega
  · rintro ⟨h1, h2⟩
    rw [h2, h1, show top + d - top = d by omega]
section SP
variable {l : Launch} {Q : Option Value → fx_H → Prop} {h : fx_H} {a : Nat → Nat} {pp dd : Nat} {L : List Int} {p e z : Int} {g w t top : Int} {f : Int → Int → Int} {B : List Int}
theorem mB.uA {q k : Nat} {x : Int} (c : mB h L p e z) (hq : q ≠ 33) : mB (fx_uA h q k x) L p e z := c.mo (PA := fun j => j = q) (PF := fun k => k < 0) (mo.uA rfl) (by omega) (by omega) (by omega) (by omega)
theorem mQ.same {h h2 : fx_H} {k i : Int} (c : mQ h g w f top B k i) (e : ∀ j, h2.2.2.1 34 j = h.2.2.1 34 j) : mQ h2 g w f top B k i := fun x v h1 h3 h4 h5 => by rw [e]; exact c x v h1 h3 h4 h5
theorem mQ.put {k i k2 i2 x0 y0 u : Int} (c : mQ h g w f top B k i) (hw : 0 ≤ w) (hx0 : 0 ≤ x0) (hxw : x0 < w) (hy0 : 0 ≤ y0) (hu : dF g w f top B x0 y0 = u) (hs : ∀ x v : Int, 0 ≤ x → x < w → 0 ≤ v → ¬ (x = x0 ∧ v = y0) → (v < top ∨ ixv g w top x v < k2 ∨ (ixv g w top x v = k2 ∧ g = 0 ∧ x % 8 < i2)) → (v < top ∨ ixv g w top x v < k ∨ (ixv g w top x v = k ∧ g = 0 ∧ x % 8 < i))) : mQ (fx_uA h 34 (w * y0 + x0).toNat u) g w f top B k2 i2 := by
  intro x v h1 h3 h4 h5
  by_cases hq : x = x0 ∧ v = y0
  · obtain ⟨rfl, rfl⟩ := hq
    rw [uA_s, hu]
  · have hn1 : 0 ≤ w * y0 := Int.mul_nonneg hw hy0
    have hn2 : 0 ≤ w * v := Int.mul_nonneg hw h4
    rw [uA_n]
    · exact c x v h1 h3 h4 (hs x v h1 h3 h4 hq h5)
    · rintro ⟨-, ee⟩
      have e2 : v * w + x = y0 * w + x0 := by rw [Int.mul_comm v w, Int.mul_comm y0 w]; omega
      exact hq (fp_inj h1 h3 hx0 hxw e2)
theorem m_spread {n : Nat} (hS : h.1 = fx_S0 a pp dd) (hg : h.2.1 31 14 = g) (hw : h.2.1 31 15 = w) (hg2 : g = 0 ∨ g = 1) (hw1 : 1 ≤ w) (hw2 : w ≤ 40) (hN1 : 1 ≤ rbn g w) (cb : mB h L p e 0) (ms : mS h B) (hB : isB B) (h0 : 0 ≤ top) (htn : top + n ≤ 24) (hBl : (B.length : Int) = rbn g w * n) (hB4 : B.length ≤ 400) (mg : mG h w f top) (k1 : flA g w B → ∀ h2, mo sA rF h h2 → mB h2 L p e 0 → mG h2 w (dF g w f top B) (top + n) → Q none h2) (k0 : ¬ flA g w B → ∀ h2, mo sA rF h h2 → mB h2 L p e 1 → Q none h2) : fx_Mt l M_MO_spread (0, 0) [.ref 31, .int (zI top), .int (zI (n : Nat))] h Q := by
  refine e_MO_spread hS (m_MOrb hS hg hw hg2 hw1 hw2 ⟨_, rfl, rfl, ?_⟩)
  have gf : ∀ {h2 : fx_H}, mo sA rF h h2 → h2.2.1 31 14 = g := fun m2 => (m2.2 14 (by omega)).trans hg
  have wf : ∀ {h2 : fx_H}, mo sA rF h h2 → h2.2.1 31 15 = w := fun m2 => (m2.2 15 (by omega)).trans hw
  have sf : ∀ {h2 : fx_H}, mo sA rF h h2 → mS h2 B := fun m2 => ms.mo m2 (by omega) (by omega)
  have hRN : rbn g w ≤ 40 := by unfold rbn; split <;> omega
  have loop : ∀ (m k : Nat) (z : Int) (h2 : fx_H), k + m = B.length → mo sA rF h h2 → mB h2 L p e z → mQ h2 g w f top B k 0 → (z = 0 ↔ ∀ k2 : Nat, k2 < k → flO g w ((k2 : Int) % rbn g w) (B.getD k2 0)) → fx_V l M_MO_spread (0, 0) Q 0 0 8 [some (.ref 31), some (.int (zI top)), some (.int (zI (n : Nat))), some (.int (zI (rbn g w))), some (.int (zI (k : Nat))), none, none, none, none, none] [] h2 := by
    intro m
    induction m with
    | zero =>
      intro k z h2 hk m2 c2 q2 hz
      have hz01 := c2.2.2.2.1
      have ek : k = B.length := by omega
      subst ek
      refine w_MO_spread_8 (m2.S.trans hS) ⟨by omega, by omega, fun _ => ?_, fun u => by omega⟩
      by_cases fl : flA g w B
      · have z0 : z = 0 := hz.mpr fl
        subst z0
        refine k1 fl h2 m2 c2 fun x v h1 h3 h4 h5 => q2 x v h1 h3 h4 ?_
        by_cases hv : v < top
        · exact Or.inl hv
        · refine Or.inr (Or.inl ?_)
          have hb := bix_R hg2 h1 h3
          have h6 : (v - top + 1) * rbn g w ≤ n * rbn g w := Int.mul_le_mul_of_nonneg_right (by omega) (by omega)
          rw [Int.add_mul, Int.one_mul, Int.mul_comm (n : Int)] at h6
          unfold ixv
          omega
      · have z1 : z = 1 := by have := mt hz.mp fl; omega
        subst z1
        exact k0 fl h2 m2 c2
    | succ m ih =>
      intro k z h2 hk m2 c2 q2 hz
      have hS2 := m2.S.trans hS
      have hz01 := c2.2.2.2.1
      obtain ⟨d, hd⟩ : ∃ d, (k : Int) / rbn g w = d := ⟨_, rfl⟩
      obtain ⟨r, hr⟩ : ∃ r, (k : Int) % rbn g w = r := ⟨_, rfl⟩
      have hk9 := Int.mul_ediv_add_emod (k : Int) (rbn g w)
      rw [hd, hr] at hk9
      have hr0 := Int.emod_nonneg (k : Int) (show rbn g w ≠ 0 by omega)
      have hr1 := Int.emod_lt_of_pos (k : Int) (show 0 < rbn g w by omega)
      rw [hr] at hr0 hr1
      have hd0 : 0 ≤ d := by rw [← hd]; exact Int.ediv_nonneg (by omega) (by omega)
      have hdn : d < n := by
        rw [← hd]
        exact Int.ediv_lt_of_lt_mul (by omega) (by rw [Int.mul_comm]; omega)
      have hbk : h2.2.2.1 38 (k : Int).toNat = B.getD k 0 := by rw [Int.toNat_natCast]; exact (sf m2).2 k (by omega)
      have hbR := hB.get k
      have hyw : 0 ≤ w * (top + d) ∧ w * (top + d) ≤ 920 := by
        refine ⟨Int.mul_nonneg (by omega) (by omega), ?_⟩
        have h1 : w * (top + d) ≤ 40 * (top + d) := Int.mul_le_mul_of_nonneg_right hw2 (by omega)
        omega
      have key : ∀ {x v : Int}, 0 ≤ x → x < w → (ixv g w top x v = k ↔ (v = top + d ∧ bix g x = r)) := fun h1 h3 => ixv_eq hg2 h1 h3 hr0 hr1 hk9
      have pixel : ∀ {x : Int}, 0 ≤ x → x < w → bix g x = r → dF g w f top B x (top + d) = bpx g (B.getD k 0) x := by
        intro x h1 h3 h4
        have e1 := (key (v := top + d) h1 h3).mpr ⟨rfl, h4⟩
        unfold ixv at e1
        unfold dF
        rw [if_pos ⟨h1, h3, by omega, by omega⟩, e1, Int.toNat_natCast]
      have e1 : (k : Int) + 1 = ((k + 1 : Nat) : Int) := by omega
      have hzs : (z = 0 ∧ flO g w r (B.getD k 0)) ↔ ∀ k2 : Nat, k2 < k + 1 → flO g w ((k2 : Int) % rbn g w) (B.getD k2 0) := by
        rw [hz]
        constructor
        · rintro ⟨h1, h3⟩ k2 hk2
          by_cases e9 : k2 = k
          · subst e9; rw [hr]; exact h3
          · exact h1 k2 (by omega)
        · intro h1
          refine ⟨fun k2 hk2 => h1 k2 (by omega), ?_⟩
          have := h1 k (by omega)
          rw [hr] at this; exact this
      refine w_MO_spread_8 hS2 ⟨by omega, by omega, fun u => by omega, fun _ => ⟨by omega, by omega, by omega, by omega, by omega, ?_⟩⟩
      rw [gf m2, wf m2, hbk, hd, hr]
      refine ⟨by omega, fun u => ?_, fun u => ⟨by omega, by omega, ?_, ?_, ?_⟩⟩
      · -- eight bits
        subst u
        have bitsL : ∀ (m3 : Nat) (i z3 : Int) (h3 : fx_H), i + m3 = 8 → 0 ≤ i → mo sA rF h h3 → mB h3 L p e z3 → mQ h3 0 w f top B k i → (z3 = 0 ↔ z = 0 ∧ ∀ j : Int, 0 ≤ j → j < i → fp_bit (B.getD k 0) j = 1 → 8 * r + j < w) → fx_V l M_MO_spread (0, 0) Q 0 0 62 [some (.ref 31), some (.int (zI top)), some (.int (zI (n : Nat))), some (.int (zI (rbn 0 w))), some (.int (zI (k : Nat))), some (.int (zI (top + d))), some (.int (zI (B.getD k 0))), some (.int (zI i)), none, none] [] h3 := by
          intro m3
          induction m3 with
          | zero =>
            intro i z3 h3 hi hi0 mm3 c3 q3 hz3
            have ei : i = 8 := by omega
            subst ei
            refine w_MO_spread_62 (mm3.S.trans hS) ⟨by omega, fun _ => ?_, fun u => by omega⟩
            rw [e1]
            refine ih (k + 1) z3 h3 (by omega) mm3 c3 (fun x v h1 h3x h4 h5 => q3 x v h1 h3x h4 ?_) ?_
            · rcases h5 with h5 | h5 | h5
              · exact Or.inl h5
              · by_cases e9 : ixv 0 w top x v = k
                · exact Or.inr (Or.inr ⟨e9, rfl, by omega⟩)
                · exact Or.inr (Or.inl (by omega))
              · have := h5.2.2; omega
            · rw [hz3, ← hzs]
              unfold flO
              constructor
              · rintro ⟨v1, v2⟩; exact ⟨v1, fun _ => v2⟩
              · rintro ⟨v1, v2⟩; exact ⟨v1, v2 rfl⟩
          | succ m3 ihm =>
            intro i z3 h3 hi hi0 mm3 c3 q3 hz3
            have hS3 := mm3.S.trans hS
            have hz301 := c3.2.2.2.1
            have h01 := fp_bit_01 (B.getD k 0) i
            have ebit : B.getD k 0 / 2 ^ (7 - i).toNat % 2 = fp_bit (B.getD k 0) i := rfl
            refine w_MO_spread_62 hS3 ⟨by omega, fun u => by omega, fun _ => ?_⟩
            rw [gf mm3, wf mm3, hr, ebit]
            have nextz : ∀ z4 : Int, (z4 = 0 ↔ z3 = 0 ∧ (fp_bit (B.getD k 0) i = 1 → 8 * r + i < w)) → (z4 = 0 ↔ z = 0 ∧ ∀ j : Int, 0 ≤ j → j < i + 1 → fp_bit (B.getD k 0) j = 1 → 8 * r + j < w) := by
              intro z4 h4
              rw [h4, hz3]
              constructor
              · rintro ⟨⟨v1, v2⟩, v3⟩
                refine ⟨v1, fun j j0 j1 j2 => ?_⟩
                by_cases ej : j = i
                · subst ej; exact v3 j2
                · exact v2 j j0 (by omega) j2
              · rintro ⟨v1, v2⟩
                exact ⟨⟨v1, fun j j0 j1 j2 => v2 j j0 (by omega) j2⟩, v2 i hi0 (by omega)⟩
            have outQ : ∀ h4 : fx_H, ¬ r * 8 + i < w → (∀ j, h4.2.2.1 34 j = h3.2.2.1 34 j) → mQ h4 0 w f top B k (i + 1) := by
              intro h4 hx e4 x v h1 h3x h5 h6
              refine (q3.same e4) x v h1 h3x h5 ?_
              rcases h6 with h6 | h6 | h6
              · exact Or.inl h6
              · exact Or.inr (Or.inl h6)
              · obtain ⟨h7, h8, h9⟩ := h6
                have hb := (key h1 h3x).mp h7
                have hb2 := hb.2
                unfold bix at hb2
                rw [if_pos rfl] at hb2
                exact Or.inr (Or.inr ⟨h7, h8, by omega⟩)
            have uAid : ∀ (h4 : fx_H) (j : Nat), (fx_uA h4 34 959 (h4.2.2.1 34 959)).2.2.1 34 j = h4.2.2.1 34 j := by
              intro h4 j
              by_cases ej : j = 959
              · subst ej; rw [uA_s]
              · rw [uA_n _ _ (by omega)]
            refine ⟨by omega, fun u => absurd rfl u, fun _ => ⟨by omega, by omega, by omega, by omega, ⟨by omega, by omega⟩, by omega, by omega, by omega, fun u => ?_, fun u => ⟨by omega, fun u2 => ?_, fun u2 => ?_⟩⟩⟩
            · refine m_needT hS3 c3 fun h4 m4 c4 => ⟨_, rfl, m4.S, ?_⟩
              have m34 : mo sA rF h h4 := mm3.tr (m4.mono (fun j q9 => by omega) (fun k q9 => q9))
              rw [wf m34]
              refine ⟨by omega, fun u3 => by omega, fun _ => ⟨fun u3 => by omega, fun _ => ⟨by omega, by omega, ?_⟩⟩⟩
              have mu : mo sA rF h4 (fx_uA h4 34 (w * (top + d) + (r * 8 + i)).toNat (fp_bit (B.getD k 0) i)) := mo.uA rfl
              refine ihm (i + 1) z3 _ (by omega) (by omega) (m34.tr mu) (c4.uA (by omega)) ?_ (nextz z3 ⟨fun v1 => ⟨v1, fun _ => by omega⟩, fun v1 => v1.1⟩)
              have q4 : mQ h4 0 w f top B k i := q3.same fun j => m4.1.2.2.1 34 j (by omega)
              have hbx : bix 0 (r * 8 + i) = r := by unfold bix; rw [if_pos rfl]; omega
              refine q4.put (by omega) (by omega) u (by omega) ?_ fun x v h1 h3x h4v hne h5 => ?_
              · rw [pixel (by omega) u hbx]
                unfold bpx
                rw [if_pos rfl, show (r * 8 + i) % 8 = i by omega]
              · rcases h5 with h5 | h5 | h5
                · exact Or.inl h5
                · exact Or.inr (Or.inl h5)
                · obtain ⟨h7, h8, h9⟩ := h5
                  have hb := (key h1 h3x).mp h7
                  have hb2 := hb.2
                  unfold bix at hb2
                  rw [if_pos rfl] at hb2
                  refine Or.inr (Or.inr ⟨h7, h8, ?_⟩)
                  by_cases e9 : x % 8 = i
                  · exact absurd ⟨by omega, hb.1⟩ hne
                  · omega
            · refine m_needF hS3 c3 fun h4 m4 c4 => ⟨_, rfl, m4.S, ?_⟩
              have m34 : mo sA rF h h4 := mm3.tr (m4.mono (fun j q9 => by omega) (fun k q9 => q9))
              rw [wf m34]
              refine ⟨by omega, fun _ => ⟨fun _ => ?_, fun u3 => by omega⟩, fun u3 => by omega⟩
              have mu : mo sA rF h4 (fx_uA h4 34 959 (h4.2.2.1 34 959)) := mo.uA rfl
              exact ihm (i + 1) 1 _ (by omega) (by omega) (m34.tr mu) (c4.uA (by omega)) (outQ _ u fun j => by rw [uAid, m4.1.2.2.1 34 j (by omega)]) (nextz 1 ⟨fun v1 => by omega, fun v1 => by have := v1.2 (by omega); omega⟩)
            · refine m_needT hS3 c3 fun h4 m4 c4 => ⟨_, rfl, m4.S, ?_⟩
              have m34 : mo sA rF h h4 := mm3.tr (m4.mono (fun j q9 => by omega) (fun k q9 => q9))
              rw [wf m34]
              refine ⟨by omega, fun _ => ⟨fun _ => ?_, fun u3 => by omega⟩, fun u3 => by omega⟩
              have mu : mo sA rF h4 (fx_uA h4 34 959 (h4.2.2.1 34 959)) := mo.uA rfl
              exact ihm (i + 1) z3 _ (by omega) (by omega) (m34.tr mu) (c4.uA (by omega)) (outQ _ u fun j => by rw [uAid, m4.1.2.2.1 34 j (by omega)]) (nextz z3 ⟨fun v1 => ⟨v1, fun v2 => by omega⟩, fun v1 => v1.1⟩)
        exact bitsL 8 0 z h2 (by omega) (by omega) m2 c2 q2 ⟨fun v1 => ⟨v1, fun j j0 j1 => by omega⟩, fun v1 => v1.1⟩
      · have : 0 ≤ r := hr0
        omega
      · have : r < w := by unfold rbn at hr1; rw [if_neg u] at hr1; exact hr1
        omega
      · have hrw : rbn g w = w := by unfold rbn; rw [if_neg u]
        have hbx : bix g r = r := by unfold bix; rw [if_neg u]
        have mu : mo sA rF h2 (fx_uA h2 34 (w * (top + d) + r).toNat (B.getD k 0)) := mo.uA rfl
        have m3 := m2.tr mu
        refine w_MO_spread_62 (m3.S.trans hS) ⟨by omega, fun u2 => by omega, fun _ => ?_⟩
        rw [gf m3]
        refine ⟨by omega, fun _ => ?_, fun u2 => absurd u2 u⟩
        rw [e1]
        refine ih (k + 1) z _ (by omega) m3 (c2.uA (by omega)) ?_ ?_
        · refine q2.put (by omega) hr0 (by omega) (by omega) ?_ fun x v h1 h3x h4v hne h5 => ?_
          · rw [pixel hr0 (by omega) hbx]
            unfold bpx
            rw [if_neg u]
          · rcases h5 with h5 | h5 | h5
            · exact Or.inl h5
            · by_cases e9 : ixv g w top x v = k
              · have hb := (key h1 h3x).mp e9
                have hb2 := hb.2
                unfold bix at hb2
                rw [if_neg u] at hb2
                exact absurd ⟨hb2, hb.1⟩ hne
              · exact Or.inr (Or.inl (by omega))
            · exact absurd h5.2.1 u
        · rw [← hzs]
          exact ⟨fun v1 => ⟨v1, fun v2 => absurd v2 u⟩, fun v1 => v1.1⟩
  refine loop B.length 0 0 h (by omega) mo.rf cb (fun x v h1 h3 h4 h5 => ?_) ⟨fun _ k2 hk2 => by omega, fun _ => rfl⟩
  have hv : v < top := by
    rcases h5 with h5 | h5 | h5
    · exact h5
    · by_cases hv : v < top
      · exact hv
      · have h6 : 0 ≤ (v - top) * rbn g w := Int.mul_nonneg (by omega) (by omega)
        have hb := bix_R hg2 h1 h3
        unfold ixv at h5
        omega
    · have := h5.2.2; omega
  rw [mg x v h1 h3 h4 hv]
  unfold dF
  rw [if_neg (by omega)]
end SP
