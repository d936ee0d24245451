/-! strips RUNS: the reference's reading; and its spreading of bytes -/
abbrev vA : Nat → Prop := fun j => j = 38 ∨ j = 39 ∨ j = 40
abbrev vF : Nat → Prop := fun k => k = 20 ∨ k = 22 ∨ k = 27 ∨ k = 28
section RQ
variable {l : Launch} {Q : Option Value → fx_H → Prop} {h : fx_H} {a : Nat → Nat} {pp dd : Nat} {L : List Int} {b p e z : Int} {g w t top : Int} {f : Int → Int → Int} {T : Nat} {B : List Int}
theorem mo.v {h h2 : fx_H} (m : mo fN rF h h2) : mo vA vF h h2 := m.mono (fun j q => by omega) (fun k q => by omega)
theorem mS.mo {PA PF : Nat → Prop} {h h2 : fx_H} (c : mS h B) (m : mo PA PF h h2) (hA : ¬ PA 38) (hF : ¬ PF 27) : mS h2 B := ⟨(m.2 27 hF).trans c.1, fun i hi => by rw [m.1.2.2.1 38 i (by rintro (q | q); omega; exact hA q)]; exact c.2 i hi⟩
theorem m_MOrb (hS : h.1 = fx_S0 a pp dd) (hg : h.2.1 31 14 = g) (hw : h.2.1 31 15 = w) (hg2 : g = 0 ∨ g = 1) (hw1 : 1 ≤ w) (hw2 : w ≤ 40) (k : Q (some (.int (zI (rbn g w)))) h) : fx_Mt l M_MO_rowBytes (0, 0) [.ref 31] h Q := by
  unfold rbn at k
  refine e_MO_rowBytes hS ?_
  rw [hg, hw]
  refine ⟨by omega, fun q => ⟨by omega, by omega, ?_⟩, fun q => ?_⟩
  · rw [if_pos q] at k; exact k
  · rw [if_neg q] at k; exact k
theorem m_store {u : Int} (hS : h.1 = fx_S0 a pp dd) (ms : mS h B) (cb : mB h L p e z) (hB : B.length < 400) (k : ∀ h2, mo vA vF h h2 → mS h2 (B ++ [u]) → mB h2 L p e z → Q none h2) : fx_Mt l M_MO_store (0, 0) [.ref 31, .int (zI u)] h Q := by
  refine e_MO_store hS ⟨by rw [ms.1]; omega, by rw [ms.1]; omega, ?_⟩
  have m1 : mo (fun j => j = 38) (fun k => k = 27) h (fx_uF (fx_uA h 38 (h.2.1 31 27).toNat u) 31 27 (h.2.1 31 27 + 1)) := (mo.uA (PA := fun j => j = 38) (PF := fun k => k = 27) rfl).tr (mo.uF rfl)
  exact k _ (m1.mono (fun j q => Or.inl q) (fun k q => by omega)) (mS_snoc ms) (cb.mo m1 (by omega) (by omega) (by omega) (by omega))
theorem m_inRuns {N : Int} (hS : h.1 = fx_S0 a pp dd) (hg : h.2.1 31 14 = g) (hw : h.2.1 31 15 = w) (hg2 : g = 0 ∨ g = 1) (hw1 : 1 ≤ w) (hw2 : w ≤ 40) (hN : N = rbn g w) (hN1 : 1 ≤ N) (hN2 : N ≤ 40) (cb : mB h L p e 0) (ms : mS h []) (hT : T ≤ 400) (hTN : (T : Int) % N = 0) (k1 : ∀ B, rnS L e N T FU p [] = some (e, B) → ∀ h2, mo vA vF h h2 → mB h2 L e e 0 → mS h2 B → Q none h2) (k0 : (∀ B, ¬ rnS L e N T FU p [] = some (e, B)) → ∀ h2 p2, mo vA vF h h2 → mB h2 L p2 e 1 → Q none h2) : fx_Mt l M_MO_inRuns (0, 0) [.ref 31, .int (zI (T : Nat))] h Q := by
  have hel := cb.2.2.2.2.2.2.1
  have hln := cb.2.2.2.2.2.2.2.1
  refine e_MO_inRuns hS (m_MOrb hS hg hw hg2 hw1 hw2 ⟨_, rfl, rfl, ?_⟩)
  rw [← hN]
  have lostN : rnS L e N T FU p [] = none → ∀ B, ¬ rnS L e N T FU p [] = some (e, B) := fun u B u2 => by rw [u] at u2; exact absurd u2 (by simp)
  have stop5 : ∀ (h2 : fx_H) (p2 : Int) (B : List Int), (∀ B, ¬ rnS L e N T FU p [] = some (e, B)) → B.length ≤ 400 → mS h2 B → mo vA vF h h2 → mB h2 L p2 e 1 → fx_V l M_MO_inRuns (0, 0) Q 0 0 5 [some (.ref 31), some (.int (zI (T : Nat))), some (.int (zI N)), none, none, none, none, none] [] h2 := by
    intro h2 p2 B lost hBl s2 m2 c2
    have hS2 := m2.S.trans hS
    have d5 := c2.2.2.2.2.1
    have d6 := c2.2.2.2.2.2.1
    have fin : zR p2 ∧ zR e ∧ ((¬ p2 = e → fx_Mt l M_MO_need (0, 0) [.ref 31, .int (zI 0)] h2 (fun v h7 => ∃ r9 : Int, v = some (.int (zI r9)) ∧ h7.1 = h2.1 ∧ Q none h7)) ∧ (p2 = e → fx_Mt l M_MO_need (0, 0) [.ref 31, .int (zI 1)] h2 (fun v h10 => ∃ r12 : Int, v = some (.int (zI r12)) ∧ h10.1 = h2.1 ∧ Q none h10))) :=
      ⟨by omega, by omega, fun _ => m_needF hS2 c2 fun h3 m3 c3 => ⟨_, rfl, m3.S, k0 lost h3 _ (m2.tr m3.v) c3⟩, fun _ => m_needT hS2 c2 fun h3 m3 c3 => ⟨_, rfl, m3.S, k0 lost h3 _ (m2.tr m3.v) c3⟩⟩
    refine w_MO_inRuns_5 hS2 ?_
    rw [s2.1, c2.1, c2.2.1, c2.2.2.1]
    exact ⟨by omega, by omega, fun _ => fin, fun _ => ⟨by omega, fun _ => fin, fun u => by omega⟩⟩
  have stop107 : ∀ (h2 : fx_H) (p2 x4 x5 x6 x7 : Int) (B : List Int), (∀ B, ¬ rnS L e N T FU p [] = some (e, B)) → zR x5 → zR x7 → B.length ≤ 400 → mS h2 B → mo vA vF h h2 → mB h2 L p2 e 1 → fx_V l M_MO_inRuns (0, 0) Q 0 0 107 [some (.ref 31), some (.int (zI (T : Nat))), some (.int (zI N)), none, some (.int (zI x4)), some (.int (zI x5)), some (.int (zI x6)), some (.int (zI x7))] [] h2 := by
    intro h2 p2 x4 x5 x6 x7 B lost r5 r7 hBl s2 m2 c2
    refine w_MO_inRuns_107 (m2.S.trans hS) ⟨r7, r5, fun _ => stop5 h2 p2 B lost hBl s2 m2 c2, fun _ => ?_⟩
    rw [c2.2.2.1]
    exact ⟨by omega, fun _ => stop5 h2 p2 B lost hBl s2 m2 c2, fun u => by omega⟩
  have loop : ∀ (m : Nat) (p1 : Int) (B : List Int) (h2 : fx_H), e - p1 < m → B.length ≤ T → mo vA vF h h2 → mB h2 L p1 e 0 → mS h2 B → rnS L e N T FU p [] = rnS L e N T m p1 B → fx_V l M_MO_inRuns (0, 0) Q 0 0 5 [some (.ref 31), some (.int (zI (T : Nat))), some (.int (zI N)), none, none, none, none, none] [] h2 := by
    intro m
    induction m with
    | zero => intro p1 B h2 hm _ _ c2; have := c2.2.2.2.2.2.1; omega
    | succ m ih =>
      intro p1 B h2 hm hBT m2 c2 s2 er
      have hS2 := m2.S.trans hS
      have d5 := c2.2.2.2.2.1
      have d6 := c2.2.2.2.2.2.1
      rw [rnS_s] at er
      refine w_MO_inRuns_5 hS2 ?_
      rw [s2.1, c2.1, c2.2.1, c2.2.2.1]
      refine ⟨by omega, by omega, fun u => ?_, fun u => ⟨by omega, fun u2 => absurd rfl u2, fun _ => ⟨by omega, by omega, by omega, ?_⟩⟩⟩
      · rw [if_pos (by omega)] at er
        refine ⟨by omega, by omega, fun u2 => m_needF hS2 c2 fun h3 m3 c3 => ⟨_, rfl, m3.S, k0 (fun B9 u9 => ?_) h3 _ (m2.tr m3.v) c3⟩, fun u2 => m_needT hS2 c2 fun h3 m3 c3 => ⟨_, rfl, m3.S, ?_⟩⟩
        · rw [er] at u9
          injection u9 with u9
          injection u9 with u9 u8
          exact u2 u9
        · subst u2
          exact k1 B er h3 (m2.tr m3.v) c3 (s2.mo m3 (by omega) (by omega))
      rw [if_neg (by omega)] at er
      have hb := bn8_R L p1
      have hmod0 := Int.emod_nonneg (B.length : Int) (show N ≠ 0 by omega)
      have hmod1 := Int.emod_lt_of_pos (B.length : Int) (show 0 < N by omega)
      -- the row's rest fits behind B
      have fits : (B.length : Int) + (N - (B.length : Int) % N) ≤ T := by
        have e1 := Int.mul_ediv_add_emod (B.length : Int) N
        have e2 := Int.mul_ediv_add_emod (T : Int) N
        have h1 : (B.length : Int) / N < (T : Int) / N := by
          by_cases h9 : (T : Int) / N ≤ (B.length : Int) / N
          · have := Int.mul_le_mul_of_nonneg_left h9 (show 0 ≤ N by omega)
            omega
          · omega
        have h2 : N * ((B.length : Int) / N + 1) ≤ N * ((T : Int) / N) := Int.mul_le_mul_of_nonneg_left (by omega) (by omega)
        rw [Int.mul_add, Int.mul_one] at h2
        omega
      refine m_inByte hS2 c2 (fun _ u8 h3 m3 c3 => ⟨_, rfl, m3.S, by omega, ?_⟩) (fun u8 h3 r p3 m3 c3 r0 r1 => ⟨_, rfl, m3.S, by omega, ?_⟩)
      · rw [if_neg (by omega)] at er
        have m23 := m2.tr m3.v
        have hS3 := m23.S.trans hS
        have s3 : mS h3 B := s2.mo m3 (by omega) (by omega)
        refine ⟨fun ua => ⟨fun ub => ⟨by omega, fun uc => by omega, fun _ => m_needT hS3 c3 fun h4 m4 c4 => ⟨_, rfl, m4.S, fun _ => ?_, fun ud => by omega⟩⟩, fun ub => ⟨by omega, by omega, fun uc => m_needF hS3 c3 fun h4 m4 c4 => ⟨_, rfl, m4.S, fun ud => by omega, fun _ => ?_⟩, fun uc => m_needT hS3 c3 fun h4 m4 c4 => ⟨_, rfl, m4.S, fun ud => by omega, fun _ => ?_⟩⟩⟩, fun ua => ⟨by omega, by omega, fun uc => m_needF hS3 c3 fun h4 m4 c4 => ⟨_, rfl, m4.S, fun _ => ?_, fun ud => by omega⟩, fun uc => m_needT hS3 c3 fun h4 m4 c4 => ⟨_, rfl, m4.S, fun _ => ?_, fun ud => by omega⟩⟩⟩
        · -- nothing
          rw [if_pos (by omega)] at er
          refine w_MO_inRuns_107 ((m23.tr m4.v).S.trans hS) ⟨by omega, by omega, fun _ => ih _ B h4 (by omega) hBT (m23.tr m4.v) c4 (s3.mo m4 (by omega) (by omega)) er, fun u => by omega⟩
        · -- too many of one byte
          rw [if_neg (by omega), if_neg (by omega), if_pos (by omega)] at er
          have m24 := m23.tr m4.v
          have s4 : mS h4 B := s3.mo m4 (by omega) (by omega)
          exact m_inByte (m24.S.trans hS) c4 (fun u9 _ h5 m5 c5 => by omega) (fun u9 h5 r5 p5 m5 c5 r0 r1 => ⟨_, rfl, m5.S, stop107 h5 p5 _ _ _ _ B (lostN er) (by omega) (by omega) (by omega) (s4.mo m5 (by omega) (by omega)) (m24.tr m5.v) c5⟩)
        · -- one byte, many times
          rw [if_neg (by omega), if_neg (by omega)] at er
          have m24 := m23.tr m4.v
          have s4 : mS h4 B := s3.mo m4 (by omega) (by omega)
          refine m_inByte (m24.S.trans hS) c4 (fun _ u9 h5 m5 c5 => ⟨_, rfl, m5.S, ?_⟩) (fun u9 h5 r5 p5 m5 c5 r0 r1 => ⟨_, rfl, m5.S, stop107 h5 p5 _ _ _ _ B (lostN (by rw [er, if_pos (by omega)])) (by omega) (by omega) (by omega) (s4.mo m5 (by omega) (by omega)) (m24.tr m5.v) c5⟩)
          rw [if_neg (by omega)] at er
          obtain ⟨n, hn⟩ : ∃ n : Nat, 257 - bn L p1 8 = n := ⟨(257 - bn L p1 8).toNat, by omega⟩
          rw [hn] at er uc ⊢
          rw [Int.toNat_natCast] at er
          have run : ∀ (k j : Nat) (h6 : fx_H), j + k = n → mo vA vF h h6 → mB h6 L (p1 + 8 + 8) e 0 → mS h6 (B ++ List.replicate j (bn L (p1 + 8) 8)) → fx_V l M_MO_inRuns (0, 0) Q 0 0 107 [some (.ref 31), some (.int (zI (T : Nat))), some (.int (zI N)), none, some (.int (zI (bn L p1 8))), some (.int (zI (n : Nat))), some (.int (zI (bn L (p1 + 8) 8))), some (.int (zI (j : Nat)))] [] h6 := by
            intro k
            induction k with
            | zero =>
              intro j h6 hj m6 c6 s6
              have ej : j = n := by omega
              subst ej
              refine w_MO_inRuns_107 (m6.S.trans hS) ⟨by omega, by omega, fun _ => ih _ _ h6 (by omega) ?_ m6 c6 s6 er, fun u => absurd (Int.le_refl _) u⟩
              rw [List.length_append, List.length_replicate]; omega
            | succ k ihk =>
              intro j h6 hj m6 c6 s6
              refine w_MO_inRuns_107 (m6.S.trans hS) ⟨by omega, by omega, fun u => by omega, fun _ => ?_⟩
              rw [c6.2.2.1]
              refine ⟨by omega, fun u => absurd rfl u, fun _ => ⟨by omega, fun u => by omega, fun _ => ?_⟩⟩
              refine m_store (m6.S.trans hS) s6 c6 (by rw [List.length_append, List.length_replicate]; omega) fun h7 m7 s7 c7 => ⟨rfl, m7.S, ?_⟩
              rw [List.append_assoc, ← rep_s] at s7
              exact ihk (j + 1) h7 (by omega) (m6.tr m7) c7 s7
          exact run n 0 h5 (by omega) (m24.tr m5.v) c5 (by simpa using s4.mo m5 (by omega) (by omega))
        · -- too many bytes
          rw [if_neg (by omega), if_pos (by omega), if_pos (by omega)] at er
          exact stop107 h4 _ _ _ _ _ B (lostN er) (by omega) (by omega) (by omega) (s3.mo m4 (by omega) (by omega)) (m23.tr m4.v) c4
        · -- bytes
          rw [if_neg (by omega), if_pos (by omega)] at er
          obtain ⟨n, hn⟩ : ∃ n : Nat, bn L p1 8 + 1 = n := ⟨(bn L p1 8 + 1).toNat, by omega⟩
          rw [hn] at er uc ⊢
          rw [Int.toNat_natCast] at er
          have run : ∀ (k j : Nat) (h6 : fx_H), j + k = n → mo vA vF h h6 → mB h6 L (p1 + 8 + 8 * j) e 0 → mS h6 (B ++ byts L (p1 + 8) j) → fx_V l M_MO_inRuns (0, 0) Q 0 0 107 [some (.ref 31), some (.int (zI (T : Nat))), some (.int (zI N)), none, some (.int (zI (bn L p1 8))), some (.int (zI (n : Nat))), some (.int (zI 0)), some (.int (zI (j : Nat)))] [] h6 := by
            intro k
            induction k with
            | zero =>
              intro j h6 hj m6 c6 s6
              have ej : j = n := by omega
              subst ej
              have d6 := c6.2.2.2.2.2.1
              refine w_MO_inRuns_107 (m6.S.trans hS) ⟨by omega, by omega, fun _ => ih _ _ h6 (by omega) ?_ m6 c6 s6 (by rw [er, if_neg (by omega)]), fun u => absurd (Int.le_refl _) u⟩
              rw [List.length_append, byts_len]; omega
            | succ k ihk =>
              intro j h6 hj m6 c6 s6
              have hl6 : (B ++ byts L (p1 + 8) j).length < 400 := by rw [List.length_append, byts_len]; omega
              refine w_MO_inRuns_107 (m6.S.trans hS) ⟨by omega, by omega, fun u => by omega, fun _ => ?_⟩
              rw [c6.2.2.1]
              refine ⟨by omega, fun u => absurd rfl u, fun _ => ⟨by omega, fun _ => ?_, fun u => by omega⟩⟩
              refine m_inByte (m6.S.trans hS) c6 (fun _ u9 h7 m7 c7 => ⟨_, rfl, m7.S, ?_⟩) (fun u9 h7 r7 p7 m7 c7 r0 r1 => ⟨_, rfl, m7.S, ?_⟩)
              · have m67 := m6.tr m7.v
                refine m_store (m67.S.trans hS) (s6.mo m7 (by omega) (by omega)) c7 hl6 fun h8 m8 s8 c8 => ⟨rfl, m8.S, ?_⟩
                have eb : byts L (p1 + 8) (j + 1) = byts L (p1 + 8) j ++ [bn L (p1 + 8 + 8 * j) 8] := rfl
                rw [List.append_assoc, ← eb] at s8
                have e9 : p1 + 8 + 8 * (j : Int) + 8 = p1 + 8 + 8 * ((j + 1 : Nat) : Int) := by omega
                rw [e9] at c8
                exact ihk (j + 1) h8 (by omega) (m67.tr m8) c8 s8
              · have m67 := m6.tr m7.v
                refine m_store (m67.S.trans hS) (s6.mo m7 (by omega) (by omega)) c7 hl6 fun h8 m8 s8 c8 => ⟨rfl, m8.S, ?_⟩
                exact stop107 h8 p7 _ _ _ _ _ (lostN (by rw [er, if_pos (by omega)])) (by omega) (by omega) (by rw [List.length_append, List.length_singleton]; omega) s8 (m67.tr m8) c8
          exact run n 0 h4 (by omega) (m23.tr m4.v) (by simpa using c4) (by simpa [byts] using s3.mo m4 (by omega) (by omega))
      · have lost : rnS L e N T FU p [] = none := by rw [er, if_pos (by omega)]
        have m23 := m2.tr m3.v
        have hS3 := m23.S.trans hS
        have s3 : mS h3 B := s2.mo m3 (by omega) (by omega)
        have go : ∀ (h4 : fx_H) (n4 : Int), zR n4 → mo vA vF h h4 → mB h4 L p3 e 1 → mS h4 B → (r ≤ 128 → fx_V l M_MO_inRuns (0, 0) Q 0 0 107 [some (.ref 31), some (.int (zI (T : Nat))), some (.int (zI N)), none, some (.int (zI r)), some (.int (zI n4)), some (.int (zI 0)), some (.int (zI 0))] [] h4) ∧ (¬ (r ≤ 128) → fx_Mt l M_MO_inByte (0, 0) [.ref 31] h4 (fun v h39 => ∃ r41 : Int, v = some (.int (zI r41)) ∧ h39.1 = h4.1 ∧ (fx_V l M_MO_inRuns (0, 0) Q 0 0 107 [some (.ref 31), some (.int (zI (T : Nat))), some (.int (zI N)), none, some (.int (zI r)), some (.int (zI n4)), some (.int (zI r41)), some (.int (zI 0))] [] h39))) := by
          intro h4 n4 hn4 m4 c4 s4
          exact ⟨fun _ => stop107 h4 p3 _ _ _ _ B (lostN lost) hn4 (by omega) (by omega) s4 m4 c4, fun _ => m_inByte (m4.S.trans hS) c4 (fun u9 _ h5 m5 c5 => by omega) (fun u9 h5 r5 p5 m5 c5 r0 r1 => ⟨_, rfl, m5.S, stop107 h5 p5 _ _ _ _ B (lostN lost) hn4 (by omega) (by omega) (s4.mo m5 (by omega) (by omega)) (m4.tr m5.v) c5⟩)⟩
        refine ⟨fun ua => ⟨fun ub => ⟨by omega, fun uc => m_needF hS3 c3 fun h4 m4 c4 => ⟨_, rfl, m4.S, ?_⟩, fun uc => m_needT hS3 c3 fun h4 m4 c4 => ⟨_, rfl, m4.S, ?_⟩⟩, fun ub => ⟨by omega, by omega, fun uc => m_needF hS3 c3 fun h4 m4 c4 => ⟨_, rfl, m4.S, ?_⟩, fun uc => m_needT hS3 c3 fun h4 m4 c4 => ⟨_, rfl, m4.S, ?_⟩⟩⟩, fun ua => ⟨by omega, by omega, fun uc => m_needF hS3 c3 fun h4 m4 c4 => ⟨_, rfl, m4.S, ?_⟩, fun uc => m_needT hS3 c3 fun h4 m4 c4 => ⟨_, rfl, m4.S, ?_⟩⟩⟩
        all_goals exact go h4 _ (by omega) (m23.tr m4.v) c4 (s3.mo m4 (by omega) (by omega))
  exact loop FU p [] h (FU_16 hel hln cb.2.2.2.2.1) (by simp) mo.rf cb ms rfl
end RQ
