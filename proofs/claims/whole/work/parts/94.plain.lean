/-! strips NONE and RUNS: the program's reading -/
/-- k bytes from bit p on -/
def byts (L : List Int) (p : Int) : Nat → List Int
  | 0 => []
  | k + 1 => byts L p k ++ [bn L (p + 8 * k) 8]
theorem byts_len (L : List Int) (p : Int) : ∀ k : Nat, (byts L p k).length = k
  | 0 => rfl
  | k + 1 => by rw [byts, List.length_append, byts_len L p k]; rfl
theorem bn8_R (L : List Int) (p : Int) : 0 ≤ bn L p 8 ∧ bn L p 8 < 256 := bn_R L p 8
theorem isB_one {b : Int} (h : 0 ≤ b ∧ b < 256) : isB [b] := fun c hc => by rw [List.mem_singleton] at hc; omega
theorem isB_nil : isB [] := fun c hc => absurd hc (by simp)
theorem byts_isB (L : List Int) (p : Int) : ∀ k : Nat, isB (byts L p k)
  | 0 => isB_nil
  | k + 1 => (byts_isB L p k).app (isB_one (bn8_R L _))
theorem byts_get (L : List Int) (p : Int) : ∀ {k i : Nat}, i < k → (byts L p k).getD i 0 = bn L (p + 8 * i) 8
  | 0, i, h => by omega
  | k + 1, i, h => by
    rw [byts]
    by_cases e : i = k
    · subst e
      have := getD_app2 (B := byts L p i) (b := bn L (p + 8 * i) 8)
      rw [byts_len] at this
      exact this
    · rw [getD_app1 (by rw [byts_len]; omega)]
      exact byts_get L p (by omega)
theorem idx_mod {k y i N : Int} (h : k = y * N + i) (h0 : 0 ≤ i) (h1 : i < N) : k % N = i := by
  rw [h, Int.add_comm, Int.add_mul_emod_self_right, Int.emod_eq_of_lt h0 h1]
noncomputable def plO (L : List Int) (e g w top : Int) (T : Nat) (p : Int) (f : Int → Int → Int) : Option (Int → Int → Int) := opt (p + 8 * T = e ∧ flA g w (byts L p T)) (dF g w f top (byts L p T))
section PL
variable {l : Launch} {Q : Option Value → fx_H → Prop} {h : fx_H} {a : Nat → Nat} {pp dd p : Nat} {L : List Int} {b q e z : Int} {g w t top : Int} {f : Int → Int → Int}
theorem m_PLunpack {bot : Int} {T : Nat} (hS : h.1 = fx_S0 a pp dd) (cp : cP h p g w t f) (cr : cRd h L b q e) (h0 : 0 ≤ top) (htb : top ≤ bot) (hbt : bot ≤ t) (hT : (T : Int) = (bot - top) * rbn g w) (k1 : ∀ f2, plO L e g w top T q f = some f2 → ∀ h2, sm (s3p p) h h2 → cP h2 p g w t f2 → cL h2 L b → Q (some (.int (zI 1))) h2) (k0 : plO L e g w top T q f = none → ∀ h2, sm (s3p p) h h2 → Q (some (.int (zI 0))) h2) : fx_Mt l M_PL_unpack (0, 0) [.ref 13, .ref p, .int (zI top), .int (zI bot)] h Q := by
  obtain ⟨⟨a1, s1⟩, ⟨a2, s2⟩, -⟩ := cp.1
  have hp27 := cp.2.2.1
  have of := cp.2.2.2.2.2.2.2
  have hr := of.rb
  have ht24 : t ≤ 24 := of.2.2.2.2.1
  refine e_PL_unpack hS s1 s2 (m_rowBytesP cp ⟨_, rfl, rfl, ?_⟩)
  unfold plO at k1 k0
  have rows : ∀ (r : Nat) (y : Int) (k : Nat) (h2 : fx_H), y + r = bot → top ≤ y → (k : Int) = (y - top) * rbn g w → sm (s3p p) h h2 → cRd h2 L b (q + 8 * k) e → cP h2 p g w t (dF g w f top (byts L q k)) → flA g w (byts L q k) → fx_V l M_PL_unpack (0, 0) Q 0 0 9 [some (.ref 13), some (.ref p), none, some (.int (zI bot)), some (.int (zI (rbn g w))), some (.int (zI y)), none, none] [] h2 := by
    intro r
    induction r with
    | zero =>
      intro y k h2 hy hty hk m2 c2 p2 fl
      have e1 : y = bot := by omega
      subst e1
      have e2 : k = T := by omega
      subst e2
      refine w_PL_unpack_9 (m2.1.trans hS) (by rw [m2.1]; exact s1) (by rw [m2.1]; exact s2) ⟨by omega, by omega, fun _ => ?_, fun u => absurd (Int.le_refl _) u⟩
      exact m_atEnd (m2.1.trans hS) c2 (fun u => ⟨1, rfl, rfl, Or.inr rfl, k1 _ (opt_pos ⟨u, fl⟩ _) h2 m2 p2 c2.1⟩) (fun u => ⟨0, rfl, rfl, Or.inl rfl, k0 (opt_neg (fun u2 => u u2.1) _) h2 m2⟩)
    | succ r ih =>
      intro y k h2 hy hty hk m2 c2 p2 fl
      refine w_PL_unpack_9 (m2.1.trans hS) (by rw [m2.1]; exact s1) (by rw [m2.1]; exact s2) ⟨by omega, by omega, fun u => by omega, fun _ => ?_⟩
      have hrow : (y - top + 1) * rbn g w ≤ (bot - top) * rbn g w := Int.mul_le_mul_of_nonneg_right (by omega) (by omega)
      rw [Int.add_mul, Int.one_mul] at hrow
      have cols : ∀ (m : Nat) (i : Int) (k2 : Nat) (h3 : fx_H), i + m = rbn g w → 0 ≤ i → (k2 : Int) = (y - top) * rbn g w + i → sm (s3p p) h h3 → cRd h3 L b (q + 8 * k2) e → cP h3 p g w t (dF g w f top (byts L q k2)) → flA g w (byts L q k2) → fx_V l M_PL_unpack (0, 0) Q 0 0 18 [some (.ref 13), some (.ref p), none, some (.int (zI bot)), some (.int (zI (rbn g w))), some (.int (zI y)), some (.int (zI i)), none] [] h3 := by
        intro m
        induction m with
        | zero =>
          intro i k2 h3 hi hi0 hk2 m3 c3 p3 fl3
          have e3 : i = rbn g w := by omega
          refine w_PL_unpack_18 (m3.1.trans hS) (by rw [m3.1]; exact s1) (by rw [m3.1]; exact s2) ⟨by omega, by omega, fun _ => ih (y + 1) k2 h3 (by omega) (by omega) ?_ m3 c3 p3 fl3, fun u => by omega⟩
          rw [hk2, e3, show y + 1 - top = y - top + 1 by omega, Int.add_mul, Int.one_mul]
        | succ m ihm =>
          intro i k2 h3 hi hi0 hk2 m3 c3 p3 fl3
          have hb := bn8_R L (q + 8 * k2)
          have hlt : k2 < T := by omega
          refine w_PL_unpack_18 (m3.1.trans hS) (by rw [m3.1]; exact s1) (by rw [m3.1]; exact s2) ⟨by omega, by omega, fun u => by omega, fun _ => ?_⟩
          refine m_numberB (n := 8) (m3.1.trans hS) c3 (by omega) (fun u h4 m4 c4 => ⟨_, rfl, m4.1, by omega, fun u2 => by omega, fun _ => ?_⟩) (fun u => ⟨_, rfl, rfl, by omega, fun _ => k0 (opt_neg (fun u2 => by have := u2.1; omega) _) h3 m3, fun u2 => by omega⟩)
          have m34 := m3.tr (s3.to m4)
          have p4 : cP h4 p g w t (dF g w f top (byts L q k2)) := p3.sm m4 (by omega) (by omega)
          have eb : byts L q (k2 + 1) = byts L q k2 ++ [bn L (q + 8 * k2) 8] := rfl
          refine m_paintD p4 of (byts_isB L q k2) h0 hty (by omega) hi0 (by omega) (by rw [byts_len]; exact hk2) hb.1 hb.2 (fun hf h5 m5 p5 => ⟨1, rfl, m5.1, by omega, fun _ => ?_, fun u2 => by omega⟩) (fun hf h5 m5 => ⟨0, rfl, m5.1, by omega, fun u2 => absurd rfl u2, fun _ => k0 (opt_neg (fun u2 => hf ?_) _) h5 (m34.tr (s3.pt m5))⟩)
          · refine ihm (i + 1) (k2 + 1) h5 (by omega) (by omega) (by omega) (m34.tr (s3.pt m5)) ?_ (by rw [eb]; exact p5) ?_
            · have e9 : q + 8 * ((k2 + 1 : Nat) : Int) = q + 8 * (k2 : Int) + ((8 : Nat) : Int) := by omega
              rw [e9]
              exact c4.sm m5 (by omega) (by omega) (by omega)
            · rw [eb, flA_app]
              refine ⟨fl3, ?_⟩
              rw [byts_len, idx_mod hk2 hi0 (by omega)]; exact hf
          · have := u2.2 k2 (by rw [byts_len]; exact hlt)
            rw [byts_get L q hlt, idx_mod hk2 hi0 (by omega)] at this
            exact this
      exact cols (rbn g w).toNat 0 k h2 (by omega) (by omega) (by omega) m2 c2 p2 fl
  refine rows (bot - top).toNat top 0 h (by omega) (by omega) (by rw [Int.sub_self, Int.zero_mul]; rfl) sm.rf (by simpa using cr) ?_ (fun k hk => by simp [byts] at hk)
  show cP h p g w t (dF g w f top [])
  rw [dF_nil _ _ _ _ (by omega)]; exact cp
end PL
