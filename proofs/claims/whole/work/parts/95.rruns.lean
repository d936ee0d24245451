/-! strips RUNS: the program's reading -/
def rnS (L : List Int) (e n : Int) (T : Nat) : Nat → Int → List Int → Option (Int × List Int)
  | 0, _, _ => none
  | m + 1, p, B => if T ≤ B.length then some (p, B) else if e < p + 8 then none
    else if bn L p 8 = 128 then rnS L e n T m (p + 8) B
    else if bn L p 8 < 128 then
      (if n < (B.length : Int) % n + (bn L p 8 + 1) ∨ e < p + 8 + 8 * (bn L p 8 + 1) then none else rnS L e n T m (p + 8 + 8 * (bn L p 8 + 1)) (B ++ byts L (p + 8) (bn L p 8 + 1).toNat))
    else (if n < (B.length : Int) % n + (257 - bn L p 8) ∨ e < p + 8 + 8 then none else rnS L e n T m (p + 8 + 8) (B ++ List.replicate (257 - bn L p 8).toNat (bn L (p + 8) 8)))
theorem rnS_s (L : List Int) (e n : Int) (T m : Nat) (p : Int) (B : List Int) : rnS L e n T (m + 1) p B = if T ≤ B.length then some (p, B) else if e < p + 8 then none
    else if bn L p 8 = 128 then rnS L e n T m (p + 8) B
    else if bn L p 8 < 128 then
      (if n < (B.length : Int) % n + (bn L p 8 + 1) ∨ e < p + 8 + 8 * (bn L p 8 + 1) then none else rnS L e n T m (p + 8 + 8 * (bn L p 8 + 1)) (B ++ byts L (p + 8) (bn L p 8 + 1).toNat))
    else (if n < (B.length : Int) % n + (257 - bn L p 8) ∨ e < p + 8 + 8 then none else rnS L e n T m (p + 8 + 8) (B ++ List.replicate (257 - bn L p 8).toNat (bn L (p + 8) 8))) := rfl
noncomputable def rnO (L : List Int) (e g w top : Int) (T : Nat) (p : Int) (f : Int → Int → Int) : Option (Int → Int → Int) :=
  match rnS L e (rbn g w) T FU p [] with
  | none => none
  | some (q, B) => opt (q = e ∧ flA g w B) (dF g w f top B)
theorem rnS_pre {L : List Int} {e n : Int} {T : Nat} : ∀ {m : Nat} {p : Int} {B : List Int} {q : Int} {B2 : List Int}, rnS L e n T m p B = some (q, B2) → ∃ C, B2 = B ++ C
  | 0, p, B, q, B2, h => by simp [rnS] at h
  | m + 1, p, B, q, B2, h => by
    unfold rnS at h
    split at h
    · injection h with h; injection h with h1 h2; exact ⟨[], by rw [← h2, List.append_nil]⟩
    · split at h
      · exact absurd h (by simp)
      · split at h
        · exact rnS_pre h
        · split at h
          · split at h
            · exact absurd h (by simp)
            · obtain ⟨C, hC⟩ := rnS_pre h
              exact ⟨_, by rw [hC, List.append_assoc]⟩
          · split at h
            · exact absurd h (by simp)
            · obtain ⟨C, hC⟩ := rnS_pre h
              exact ⟨_, by rw [hC, List.append_assoc]⟩
theorem flA_pre {g w : Int} {B C : List Int} (h : flA g w (B ++ C)) : flA g w B := by
  intro k hk
  have := h k (by rw [List.length_append]; omega)
  rw [List.getD_eq_getElem?_getD, List.getElem?_append_left hk, ← List.getD_eq_getElem?_getD] at this
  exact this
theorem byts_pre (L : List Int) (p : Int) : ∀ {k m : Nat}, k ≤ m → ∃ C, byts L p m = byts L p k ++ C
  | k, 0, h => by
    have e : k = 0 := by omega
    subst e
    exact ⟨[], rfl⟩
  | k, m + 1, h => by
    by_cases e : k = m + 1
    · exact ⟨[], by rw [e, List.append_nil]⟩
    · obtain ⟨C, hC⟩ := byts_pre L p (show k ≤ m by omega)
      exact ⟨C ++ [bn L (p + 8 * m) 8], by rw [byts, hC, List.append_assoc]⟩
theorem rep_isB {b : Int} (h : 0 ≤ b ∧ b < 256) (k : Nat) : isB (List.replicate k b) := fun c hc => by
  have := List.eq_of_mem_replicate hc
  omega
theorem rep_s (k : Nat) (b : Int) : List.replicate (k + 1) b = List.replicate k b ++ [b] := List.replicate_succ'
section RU
variable {l : Launch} {Q : Option Value → fx_H → Prop} {h : fx_H} {a : Nat → Nat} {pp dd p : Nat} {L : List Int} {b q e z : Int} {g w t top : Int} {f : Int → Int → Int} {B : List Int}
/-- a run of different bytes -/
theorem m_unpackRun0 {y x : Int} {n : Nat} (hS : h.1 = fx_S0 a pp dd) (cp : cP h p g w t (dF g w f top B)) (of : pOK g w t f) (hB : isB B) (fl : flA g w B) (cr : cRd h L b q e) (h0 : 0 ≤ top) (hy : top ≤ y) (hyt : y < t) (hx : 0 ≤ x) (hxn : x + n ≤ rbn g w) (hBl : (B.length : Int) = (y - top) * rbn g w + x) (k1 : q + 8 * n ≤ e → flA g w (B ++ byts L q n) → ∀ h2, sm (s3p p) h h2 → cRd h2 L b (q + 8 * n) e → cP h2 p g w t (dF g w f top (B ++ byts L q n)) → Q (some (.int (zI 1))) h2) (k0 : ¬ (q + 8 * n ≤ e ∧ flA g w (B ++ byts L q n)) → ∀ h2, sm (s3p p) h h2 → Q (some (.int (zI 0))) h2) : fx_Mt l M_RU_unpackRun (0, 0) [.ref 14, .ref p, .int (zI y), .int (zI x), .int (zI (n : Nat)), .int (zI 0)] h Q := by
  obtain ⟨⟨a1, s1⟩, ⟨a2, s2⟩, -⟩ := cp.1
  have hp27 := cp.2.2.1
  have hr := of.rb
  refine e_RU_unpackRun hS s1 s2 ?_
  have loop : ∀ (m k : Nat) (x6 : Int) (h2 : fx_H), k + m = n → sm (s3p p) h h2 → cRd h2 L b (q + 8 * k) e → cP h2 p g w t (dF g w f top (B ++ byts L q k)) → flA g w (B ++ byts L q k) → fx_V l M_RU_unpackRun (0, 0) Q 0 0 6 [some (.ref 14), some (.ref p), some (.int (zI y)), some (.int (zI x)), some (.int (zI (n : Nat))), some (.int (zI 0)), some (.int (zI x6)), some (.int (zI (k : Nat)))] [] h2 := by
    intro m
    induction m with
    | zero =>
      intro k x6 h2 hk m2 c2 p2 fl2
      have e1 : k = n := by omega
      subst e1
      exact w_RU_unpackRun_6 (m2.1.trans hS) (by rw [m2.1]; exact s1) (by rw [m2.1]; exact s2) ⟨by omega, by omega, fun _ => k1 c2.2.2.2.2.1 fl2 h2 m2 c2 p2, fun u => absurd (Int.le_refl _) u⟩
    | succ m ih =>
      intro k x6 h2 hk m2 c2 p2 fl2
      have hb := bn8_R L (q + 8 * k)
      have eb : byts L q (k + 1) = byts L q k ++ [bn L (q + 8 * k) 8] := rfl
      have hl : ((B ++ byts L q k).length : Int) = (y - top) * rbn g w + (x + k) := by rw [List.length_append, byts_len]; omega
      have step : fx_Mt l M_BR_number (0, 0) [.ref 3, .int (zI 8)] h2 (fun v h5 => ∃ r7 : Int, v = some (.int (zI r7)) ∧ h5.1 = h2.1 ∧ zR r7 ∧ ((r7 < 0 → Q (some (.int (zI 0))) h5) ∧ (¬ (r7 < 0) → fx_Mt l M_PI_paintRowByte (0, 0) [.ref p, .int (zI y), .int (zI (x + k)), .int (zI r7)] h5 (fun v h10 => ∃ r12 : Int, v = some (.int (zI r12)) ∧ h10.1 = h5.1 ∧ zR r12 ∧ ((¬ r12 = 0 → (fx_V l M_RU_unpackRun (0, 0) Q 0 0 6 [some (.ref 14), some (.ref p), some (.int (zI y)), some (.int (zI x)), some (.int (zI (n : Nat))), some (.int (zI 0)), some (.int (zI r7)), some (.int (zI (k + 1)))] [] h10)) ∧ (r12 = 0 → Q (some (.int (zI 0))) h10)))))) := by
        refine m_numberB (n := 8) (m2.1.trans hS) c2 (by omega) (fun u h4 m4 c4 => ⟨_, rfl, m4.1, by omega, fun u2 => by omega, fun _ => ?_⟩) (fun u => ⟨_, rfl, rfl, by omega, fun _ => k0 (fun u2 => by have := u2.1; omega) h2 m2, fun u2 => by omega⟩)
        have m24 := m2.tr (s3.to m4)
        have p4 : cP h4 p g w t (dF g w f top (B ++ byts L q k)) := p2.sm m4 (by omega) (by omega)
        refine m_paintD p4 of (hB.app (byts_isB L q k)) h0 hy hyt (by omega) (by omega) hl hb.1 hb.2 (fun hf h5 m5 p5 => ⟨1, rfl, m5.1, by omega, fun _ => ?_, fun u2 => by omega⟩) (fun hf h5 m5 => ⟨0, rfl, m5.1, by omega, fun u2 => absurd rfl u2, fun _ => k0 (fun u2 => hf ?_) h5 (m24.tr (s3.pt m5))⟩)
        · have e3 : (k : Int) + 1 = ((k + 1 : Nat) : Int) := by omega
          rw [e3]
          rw [List.append_assoc, ← eb] at p5
          refine ih (k + 1) _ h5 (by omega) (m24.tr (s3.pt m5)) ?_ p5 ?_
          · have e9 : q + 8 * ((k + 1 : Nat) : Int) = q + 8 * (k : Int) + ((8 : Nat) : Int) := by omega
            rw [e9]
            exact c4.sm m5 (by omega) (by omega) (by omega)
          · rw [eb, ← List.append_assoc, flA_app]
            refine ⟨fl2, ?_⟩
            rw [idx_mod hl (by omega) (by omega)]; exact hf
        · obtain ⟨C, hC⟩ := byts_pre L q (show k + 1 ≤ n by omega)
          have := u2.2
          rw [hC, eb, ← List.append_assoc, ← List.append_assoc] at this
          have := (flA_app.mp (flA_pre this)).2
          rw [idx_mod hl (by omega) (by omega)] at this
          exact this
      refine w_RU_unpackRun_6 (m2.1.trans hS) (by rw [m2.1]; exact s1) (by rw [m2.1]; exact s2) ⟨by omega, by omega, fun u => by omega, fun _ => ⟨fun u => step, fun u => ⟨by omega, fun u2 => absurd rfl u2, fun _ => step⟩⟩⟩
  exact loop n 0 0 h (by omega) sm.rf (by simpa using cr) (by simpa [byts] using cp) (by simpa [byts] using fl)
/-- a run of one byte -/
theorem m_unpackRun1 {y x : Int} {n : Nat} (hS : h.1 = fx_S0 a pp dd) (cp : cP h p g w t (dF g w f top B)) (of : pOK g w t f) (hB : isB B) (fl : flA g w B) (cr : cRd h L b q e) (h0 : 0 ≤ top) (hy : top ≤ y) (hyt : y < t) (hx : 0 ≤ x) (hn1 : 1 ≤ n) (hxn : x + n ≤ rbn g w) (hBl : (B.length : Int) = (y - top) * rbn g w + x) (k1 : q + 8 ≤ e → flA g w (B ++ List.replicate n (bn L q 8)) → ∀ h2, sm (s3p p) h h2 → cRd h2 L b (q + 8) e → cP h2 p g w t (dF g w f top (B ++ List.replicate n (bn L q 8))) → Q (some (.int (zI 1))) h2) (k0 : ¬ (q + 8 ≤ e ∧ flA g w (B ++ List.replicate n (bn L q 8))) → ∀ h2, sm (s3p p) h h2 → Q (some (.int (zI 0))) h2) : fx_Mt l M_RU_unpackRun (0, 0) [.ref 14, .ref p, .int (zI y), .int (zI x), .int (zI (n : Nat)), .int (zI 1)] h Q := by
  obtain ⟨⟨a1, s1⟩, ⟨a2, s2⟩, -⟩ := cp.1
  have hp27 := cp.2.2.1
  have hr := of.rb
  have hb := bn8_R L q
  refine e_RU_unpackRun hS s1 s2 ?_
  -- one byte painted
  have paint : ∀ (k : Nat) (h4 : fx_H), k + 1 ≤ n → sm (s3p p) h h4 → cRd h4 L b (q + 8) e → cP h4 p g w t (dF g w f top (B ++ List.replicate k (bn L q 8))) → flA g w (B ++ List.replicate k (bn L q 8)) → (∀ h5, sm (s3p p) h h5 → cRd h5 L b (q + 8) e → cP h5 p g w t (dF g w f top (B ++ List.replicate (k + 1) (bn L q 8))) → flA g w (B ++ List.replicate (k + 1) (bn L q 8)) → (fx_V l M_RU_unpackRun (0, 0) Q 0 0 6 [some (.ref 14), some (.ref p), some (.int (zI y)), some (.int (zI x)), some (.int (zI (n : Nat))), some (.int (zI 1)), some (.int (zI (bn L q 8))), some (.int (zI (k + 1)))] [] h5)) → fx_Mt l M_PI_paintRowByte (0, 0) [.ref p, .int (zI y), .int (zI (x + k)), .int (zI (bn L q 8))] h4 (fun v h10 => ∃ r12 : Int, v = some (.int (zI r12)) ∧ h10.1 = h4.1 ∧ zR r12 ∧ ((¬ r12 = 0 → (fx_V l M_RU_unpackRun (0, 0) Q 0 0 6 [some (.ref 14), some (.ref p), some (.int (zI y)), some (.int (zI x)), some (.int (zI (n : Nat))), some (.int (zI 1)), some (.int (zI (bn L q 8))), some (.int (zI (k + 1)))] [] h10)) ∧ (r12 = 0 → Q (some (.int (zI 0))) h10))) := by
    intro k h4 hk m4 c4 p4 fl4 kq
    have hl : ((B ++ List.replicate k (bn L q 8)).length : Int) = (y - top) * rbn g w + (x + k) := by rw [List.length_append, List.length_replicate]; omega
    refine m_paintD p4 of (hB.app (rep_isB hb k)) h0 hy hyt (by omega) (by omega) hl hb.1 hb.2 (fun hf h5 m5 p5 => ⟨1, rfl, m5.1, by omega, fun _ => ?_, fun u2 => by omega⟩) (fun hf h5 m5 => ⟨0, rfl, m5.1, by omega, fun u2 => absurd rfl u2, fun _ => k0 (fun u2 => hf ?_) h5 (m4.tr (s3.pt m5))⟩)
    · rw [List.append_assoc, ← rep_s] at p5
      refine kq h5 (m4.tr (s3.pt m5)) (c4.sm m5 (by omega) (by omega) (by omega)) p5 ?_
      rw [rep_s, ← List.append_assoc, flA_app]
      refine ⟨fl4, ?_⟩
      rw [idx_mod hl (by omega) (by omega)]; exact hf
    · have e1 : List.replicate n (bn L q 8) = List.replicate (k + 1) (bn L q 8) ++ List.replicate (n - (k + 1)) (bn L q 8) := by
        rw [List.replicate_append_replicate]; congr 1; omega
      have := u2.2
      rw [e1, rep_s, ← List.append_assoc, ← List.append_assoc] at this
      have := (flA_app.mp (flA_pre this)).2
      rw [idx_mod hl (by omega) (by omega)] at this
      exact this
  have loop : ∀ (m k : Nat) (h2 : fx_H), k + m = n → 1 ≤ k → sm (s3p p) h h2 → cRd h2 L b (q + 8) e → cP h2 p g w t (dF g w f top (B ++ List.replicate k (bn L q 8))) → flA g w (B ++ List.replicate k (bn L q 8)) → fx_V l M_RU_unpackRun (0, 0) Q 0 0 6 [some (.ref 14), some (.ref p), some (.int (zI y)), some (.int (zI x)), some (.int (zI (n : Nat))), some (.int (zI 1)), some (.int (zI (bn L q 8))), some (.int (zI (k : Nat)))] [] h2 := by
    intro m
    induction m with
    | zero =>
      intro k h2 hk hk1 m2 c2 p2 fl2
      have e1 : k = n := by omega
      subst e1
      exact w_RU_unpackRun_6 (m2.1.trans hS) (by rw [m2.1]; exact s1) (by rw [m2.1]; exact s2) ⟨by omega, by omega, fun _ => k1 c2.2.2.2.2.1 fl2 h2 m2 c2 p2, fun u => absurd (Int.le_refl _) u⟩
    | succ m ih =>
      intro k h2 hk hk1 m2 c2 p2 fl2
      have e3 : (k : Int) + 1 = ((k + 1 : Nat) : Int) := by omega
      refine w_RU_unpackRun_6 (m2.1.trans hS) (by rw [m2.1]; exact s1) (by rw [m2.1]; exact s2) ⟨by omega, by omega, fun u => by omega, fun _ => ⟨fun u => by omega, fun u => ⟨by omega, fun _ => ⟨by omega, fun u2 => by omega, fun _ => paint k h2 (by omega) m2 c2 p2 fl2 fun h5 m5 c5 p5 fl5 => ?_⟩, fun u2 => by omega⟩⟩⟩
      rw [e3]
      exact ih (k + 1) h5 (by omega) (by omega) m5 c5 p5 fl5
  refine w_RU_unpackRun_6 hS s1 s2 ⟨by omega, by omega, fun u => by omega, fun _ => ⟨fun _ => ?_, fun u => absurd rfl u⟩⟩
  refine m_numberB (n := 8) hS cr (by omega) (fun u h4 m4 c4 => ⟨_, rfl, m4.1, by omega, fun u2 => by omega, fun _ => ?_⟩) (fun u => ⟨_, rfl, rfl, by omega, fun _ => k0 (fun u2 => by have := u2.1; omega) h sm.rf, fun u2 => by omega⟩)
  have p4 : cP h4 p g w t (dF g w f top B) := cp.sm m4 (by omega) (by omega)
  have := paint 0 h4 hn1 (s3.to m4) c4 (by simpa using p4) (by simpa using fl) (fun h5 m5 c5 p5 fl5 => loop (n - 1) 1 h5 (by omega) (by omega) m5 c5 p5 fl5)
  exact this
end RU
