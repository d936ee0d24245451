/-! strips RUNS: rows, and the whole strip -/
section RU2
variable {l : Launch} {Q : Option Value → fx_H → Prop} {h : fx_H} {a : Nat → Nat} {pp dd p : Nat} {L : List Int} {b q0 e z : Int} {g w t top : Int} {f : Int → Int → Int} {T : Nat}
theorem m_unpackRow {y : Int} {m1 : Nat} {q : Int} {B1 : List Int} (hS : h.1 = fx_S0 a pp dd) (cp : cP h p g w t (dF g w f top B1)) (of : pOK g w t f) (hB : isB B1) (fl : flA g w B1) (cr : cRd h L b q e) (h0 : 0 ≤ top) (hy : top ≤ y) (hyt : y < t) (hBl : (B1.length : Int) = (y - top) * rbn g w) (hT : (y - top + 1) * rbn g w ≤ T) (hm1 : e - q < m1) (er1 : rnS L e (rbn g w) T FU q0 [] = rnS L e (rbn g w) T m1 q B1)
    (k1 : ∀ (m2 : Nat) q2 B2, (B2.length : Int) = (y - top + 1) * rbn g w → rnS L e (rbn g w) T FU q0 [] = rnS L e (rbn g w) T m2 q2 B2 → e - q2 < m2 → isB B2 → flA g w B2 → ∀ h2, sm (s3p p) h h2 → cRd h2 L b q2 e → cP h2 p g w t (dF g w f top B2) → Q (some (.int (zI 1))) h2)
    (k0 : (∀ q9 B9, rnS L e (rbn g w) T FU q0 [] = some (q9, B9) → ¬ flA g w B9) → ∀ h2, sm (s3p p) h h2 → Q (some (.int (zI 0))) h2) : fx_Mt l M_RU_unpackRow (0, 0) [.ref 14, .ref p, .int (zI y)] h Q := by
  obtain ⟨⟨a1, s1⟩, ⟨a2, s2⟩, -⟩ := cp.1
  have hp27 := cp.2.2.1
  have hr := of.rb
  have hel := cr.2.2.2.2.2
  have hln := cr.1.2.2.2.1
  refine e_RU_unpackRow hS s1 s2 (m_rowBytesP cp ⟨_, rfl, rfl, ?_⟩)
  have ex : (y - top + 1) * rbn g w = (y - top) * rbn g w + rbn g w := by rw [Int.add_mul, Int.one_mul]
  have loop : ∀ (m : Nat) (x4 x5 q1 : Int) (B : List Int) (h2 : fx_H), e - q1 < m → 0 ≤ x4 → x4 ≤ rbn g w → 0 ≤ x5 → 8 * x5 ≤ q1 → (B.length : Int) = (y - top) * rbn g w + x4 → isB B → flA g w B → sm (s3p p) h h2 → cRd h2 L b q1 e → cP h2 p g w t (dF g w f top B) → rnS L e (rbn g w) T FU q0 [] = rnS L e (rbn g w) T m q1 B → fx_V l M_RU_unpackRow (0, 0) Q 0 0 11 [some (.ref 14), some (.ref p), some (.int (zI y)), some (.int (zI (rbn g w))), some (.int (zI x4)), some (.int (zI x5)), none, none] [] h2 := by
    intro m
    induction m with
    | zero => intro x4 x5 q1 B h2 hm _ _ _ _ _ _ _ _ c2; have := c2.2.2.2.2.1; omega
    | succ m ih =>
      intro x4 x5 q1 B h2 hm h40 h4 h50 h5 hl hBB fl2 m2 c2 p2 er
      have hqe := c2.2.2.2.2.1
      have hS2 := m2.1.trans hS
      have full : x4 = rbn g w → Q (some (.int (zI 1))) h2 := fun u => k1 (m + 1) q1 B (by omega) er hm hBB fl2 h2 m2 c2 p2
      have lost0 : ∀ h3, sm (s3p p) h h3 → rnS L e (rbn g w) T FU q0 [] = none → Q (some (.int (zI 0))) h3 := fun h3 m3 u => k0 (fun q9 B9 u9 => by rw [u] at u9; exact absurd u9 (by simp)) h3 m3
      refine w_RU_unpackRow_11 hS2 (by rw [m2.1]; exact s1) (by rw [m2.1]; exact s2) ⟨by omega, fun w5 => ⟨by omega, by omega, fun wx => lost0 h2 m2 ?_, full⟩, fun w5 => ⟨by omega, by omega, fun wx => ⟨fun u => by omega, full⟩, fun wx => ?_⟩⟩
      · rw [er, rnS_s]
        rw [if_neg (by omega), if_pos (by omega)]
      rw [rnS_s] at er
      rw [if_neg (by omega)] at er
      have hb := bn8_R L q1
      have hmod := idx_mod hl h40 (by omega)
      refine m_numberB (n := 8) hS2 c2 (by omega) (fun u h3 m3 c3 => ⟨_, rfl, m3.1, by omega, fun u2 => ?_, fun u2 => ?_⟩) (fun u => ⟨_, rfl, rfl, by omega, fun u2 => ⟨fun u3 => by omega, fun _ => ⟨fun _ => lost0 h2 m2 (by rw [er, if_pos (by omega)]), fun u3 => by omega⟩⟩, fun u2 => by omega⟩)
      · rw [if_neg (by omega), if_neg u2, hmod] at er
        have m23 := m2.tr (s3.to m3)
        have hS3 := m23.1.trans hS
        have p3 : cP h3 p g w t (dF g w f top B) := p2.sm m3 (by omega) (by omega)
        have e8 : q1 + ((8 : Nat) : Int) = q1 + 8 := rfl
        rw [e8] at c3
        refine ⟨fun u3 => ⟨fun u4 => by omega, fun _ => ⟨by omega, fun u5 => lost0 h3 m23 (by rw [er, if_neg (by omega), if_pos (by omega)]), fun u5 => ⟨fun u6 => by omega, fun u6 => ?_⟩⟩⟩, fun u3 => ⟨fun u4 => by omega, fun _ => ⟨by omega, fun u5 => lost0 h3 m23 (by rw [er, if_pos (by omega), if_pos (by omega)]), fun u5 => ⟨fun u6 => ?_, fun u6 => by omega⟩⟩⟩⟩
        · rw [if_neg (by omega)] at er
          obtain ⟨n, hn⟩ : ∃ n : Nat, 257 - bn L q1 8 = n := ⟨(257 - bn L q1 8).toNat, by omega⟩
          rw [hn] at er u5 ⊢
          rw [Int.toNat_natCast] at er
          refine m_unpackRun1 hS3 p3 of hBB fl2 c3 h0 hy hyt h40 (by omega) (by omega) hl (fun v1 v2 h4 m4 c4 p4 => ⟨_, rfl, m4.1, by omega, fun _ => ?_, fun u7 => by omega⟩) (fun v1 h4 m4 => ⟨_, rfl, m4.1, by omega, fun u7 => absurd rfl u7, fun _ => k0 (fun q9 B9 u9 => ?_) h4 (m23.tr m4)⟩)
          · refine ih (x4 + n) (x5 + 1) _ _ h4 (by omega) (by omega) (by omega) (by omega) (by omega) ?_ (hBB.app (rep_isB (bn8_R L _) n)) v2 (m23.tr m4) c4 p4 (by rw [er, if_neg (by omega)])
            rw [List.length_append, List.length_replicate]; omega
          · intro u8
            rw [er] at u9
            split at u9
            · exact absurd u9 (by simp)
            · obtain ⟨C, hC⟩ := rnS_pre u9
              rw [hC] at u8
              exact v1 ⟨by omega, flA_pre u8⟩
        · rw [if_pos (by omega)] at er
          obtain ⟨n, hn⟩ : ∃ n : Nat, bn L q1 8 + 1 = n := ⟨(bn L q1 8 + 1).toNat, by omega⟩
          rw [hn] at er u5 ⊢
          rw [Int.toNat_natCast] at er
          refine m_unpackRun0 hS3 p3 of hBB fl2 c3 h0 hy hyt h40 (by omega) hl (fun v1 v2 h4 m4 c4 p4 => ⟨_, rfl, m4.1, by omega, fun _ => ?_, fun u7 => by omega⟩) (fun v1 h4 m4 => ⟨_, rfl, m4.1, by omega, fun u7 => absurd rfl u7, fun _ => k0 (fun q9 B9 u9 => ?_) h4 (m23.tr m4)⟩)
          · refine ih (x4 + n) (x5 + 1) _ _ h4 (by omega) (by omega) (by omega) (by omega) (by omega) ?_ (hBB.app (byts_isB L _ n)) v2 (m23.tr m4) c4 p4 (by rw [er, if_neg (by omega)])
            rw [List.length_append, byts_len]; omega
          · intro u8
            rw [er] at u9
            split at u9
            · exact absurd u9 (by simp)
            · obtain ⟨C, hC⟩ := rnS_pre u9
              rw [hC] at u8
              exact v1 ⟨by omega, flA_pre u8⟩
      · rw [if_neg (by omega), if_pos u2] at er
        exact ih x4 (x5 + 1) _ B h3 (by omega) h40 h4 (by omega) (by omega) hl hBB fl2 (m2.tr (s3.to m3)) c3 (p2.sm m3 (by omega) (by omega)) er
  exact loop m1 0 0 q B1 h hm1 (by omega) (by omega) (by omega) (by have := cr.2.2.2.1; omega) (by omega) hB fl sm.rf cr cp er1
theorem m_RUunpack {bot : Int} (hS : h.1 = fx_S0 a pp dd) (cp : cP h p g w t f) (cr : cRd h L b q0 e) (h0 : 0 ≤ top) (htb : top ≤ bot) (hbt : bot ≤ t) (hT : (T : Int) = (bot - top) * rbn g w) (k1 : ∀ f2, rnO L e g w top T q0 f = some f2 → ∀ h2, sm (s3p p) h h2 → cP h2 p g w t f2 → cL h2 L b → Q (some (.int (zI 1))) h2) (k0 : rnO L e g w top T q0 f = none → ∀ h2, sm (s3p p) h h2 → Q (some (.int (zI 0))) h2) : fx_Mt l M_RU_unpack (0, 0) [.ref 14, .ref p, .int (zI top), .int (zI bot)] h Q := by
  obtain ⟨⟨a1, s1⟩, ⟨a2, s2⟩, -⟩ := cp.1
  have hp27 := cp.2.2.1
  have of := cp.2.2.2.2.2.2.2
  have hr := of.rb
  have ht24 : t ≤ 24 := of.2.2.2.2.1
  have hel := cr.2.2.2.2.2
  have hln := cr.1.2.2.2.1
  refine e_RU_unpack hS s1 s2 ?_
  unfold rnO at k1 k0
  have rows : ∀ (r : Nat) (y : Int) (m q : Int) (m1 : Nat) (B : List Int) (h2 : fx_H), y + r = bot → top ≤ y → (B.length : Int) = (y - top) * rbn g w → e - q < m1 → rnS L e (rbn g w) T FU q0 [] = rnS L e (rbn g w) T m1 q B → isB B → flA g w B → sm (s3p p) h h2 → cRd h2 L b q e → cP h2 p g w t (dF g w f top B) → fx_V l M_RU_unpack (0, 0) Q 0 0 3 [some (.ref 14), some (.ref p), none, some (.int (zI bot)), some (.int (zI y))] [] h2 := by
    intro r
    induction r with
    | zero =>
      intro y m q m1 B h2 hy hty hl hm er hB fl m2 c2 p2
      have e1 : y = bot := by omega
      subst e1
      have e2 : T = B.length := by omega
      have hqe := c2.2.2.2.2.1
      obtain ⟨m3, rfl⟩ : ∃ m3, m1 = m3 + 1 := ⟨m1 - 1, by omega⟩
      rw [rnS_s] at er
      rw [if_pos (by omega)] at er
      rw [er] at k1 k0
      refine w_RU_unpack_3 (m2.1.trans hS) (by rw [m2.1]; exact s1) (by rw [m2.1]; exact s2) ⟨by omega, by omega, fun _ => ?_, fun u => absurd (Int.le_refl _) u⟩
      exact m_atEnd (m2.1.trans hS) c2 (fun u => ⟨1, rfl, rfl, Or.inr rfl, k1 _ (opt_pos ⟨u, fl⟩ _) h2 m2 p2 c2.1⟩) (fun u => ⟨0, rfl, rfl, Or.inl rfl, k0 (opt_neg (fun u2 => u u2.1) _) h2 m2⟩)
    | succ r ih =>
      intro y m q m1 B h2 hy hty hl hm er hB fl m2 c2 p2
      refine w_RU_unpack_3 (m2.1.trans hS) (by rw [m2.1]; exact s1) (by rw [m2.1]; exact s2) ⟨by omega, by omega, fun u => by omega, fun _ => ?_⟩
      have hrow : (y - top + 1) * rbn g w ≤ (bot - top) * rbn g w := Int.mul_le_mul_of_nonneg_right (by omega) (by omega)
      refine m_unpackRow (m2.1.trans hS) p2 of hB fl c2 h0 hty (by omega) hl (by omega) hm er (fun m3 q3 B3 hl3 er3 hm3 hB3 fl3 h3 mm3 c3 p3 => ⟨1, rfl, mm3.1, by omega, fun _ => ih (y + 1) 0 q3 m3 B3 h3 (by omega) (by omega) ?_ hm3 er3 hB3 fl3 (m2.tr mm3) c3 p3, fun u => by omega⟩) (fun hl3 h3 mm3 => ⟨0, rfl, mm3.1, by omega, fun u => absurd rfl u, fun _ => k0 ?_ h3 (m2.tr mm3)⟩)
      · rw [hl3]; congr 1; omega
      · split
        · rfl
        · rename_i q9 B9 u9
          exact opt_neg (fun u => hl3 q9 B9 u9 u.2) _
  refine rows (bot - top).toNat top 0 q0 FU [] h (by omega) (by omega) (by rw [Int.sub_self, Int.zero_mul]; rfl) (FU_16 hel hln cr.2.2.2.1) rfl isB_nil (fun k hk => by simp at hk) sm.rf cr ?_
  rw [dF_nil _ _ _ _ (by omega)]; exact cp
end RU2
