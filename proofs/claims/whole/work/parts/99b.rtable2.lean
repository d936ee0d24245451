/-! strips TABLE: the bytes are painted -/
section RT2
variable {l : Launch} {Q : Option Value → fx_H → Prop} {h : fx_H} {a : Nat → Nat} {pp dd p : Nat} {L : List Int} {b q0 e z : Int} {g w t top : Int} {f : Int → Int → Int} {T : Nat} {B : List Int}
theorem take_s {B : List Int} {k : Nat} (h : k < B.length) : B.take (k + 1) = B.take k ++ [B.getD k 0] := by
  rw [List.take_succ, List.getD_eq_getElem?_getD, List.getElem?_eq_getElem h]
  rfl
theorem isB.take {B : List Int} (h : isB B) (k : Nat) : isB (B.take k) := fun b hb => h b (List.mem_of_mem_take hb)
theorem m_paintRows {bot : Int} (hS : h.1 = fx_S0 a pp dd) (cp : cP h p g w t f) (hB : isB B) (a17 : ∀ i : Nat, i < B.length → h.2.2.1 17 i = B.getD i 0) (h0 : 0 ≤ top) (htb : top ≤ bot) (hbt : bot ≤ t) (hT : (B.length : Int) = (bot - top) * rbn g w) (k1 : flA g w B → ∀ h2, sm (fun j => j = p + 1) h h2 → cP h2 p g w t (dF g w f top B) → Q (some (.int (zI 1))) h2) (k0 : ¬ flA g w B → ∀ h2, sm (fun j => j = p + 1) h h2 → Q (some (.int (zI 0))) h2) : fx_Mt l M_TA_paintRows (0, 0) [.ref 16, .ref p, .int (zI top), .int (zI bot)] h Q := by
  obtain ⟨⟨a1, s1⟩, ⟨a2, s2⟩, -⟩ := cp.1
  have hp27 := cp.2.2.1
  have of := cp.2.2.2.2.2.2.2
  have hr := of.rb
  have ht24 : t ≤ 24 := of.2.2.2.2.1
  have hT4 := of.T4 h0 htb hbt
  refine e_TA_paintRows hS s1 s2 ?_
  have rows : ∀ (r : Nat) (y : Int) (k : Nat) (h2 : fx_H), y + r = bot → top ≤ y → (k : Int) = (y - top) * rbn g w → sm (fun j => j = p + 1) h h2 → cP h2 p g w t (dF g w f top (B.take k)) → flA g w (B.take k) → fx_V l M_TA_paintRows (0, 0) Q 0 0 6 [some (.ref 16), some (.ref p), none, some (.int (zI bot)), some (.int (zI (k : Nat))), some (.int (zI y)), none] [] h2 := by
    intro r
    induction r with
    | zero =>
      intro y k h2 hy hty hk m2 p2 fl
      have e1 : y = bot := by omega
      subst e1
      have e2 : B.take k = B := List.take_of_length_le (by omega)
      rw [e2] at p2 fl
      exact w_TA_paintRows_6 (m2.1.trans hS) (by rw [m2.1]; exact s1) (by rw [m2.1]; exact s2) ⟨by omega, by omega, fun _ => k1 fl h2 m2 p2, fun u => absurd (Int.le_refl _) u⟩
    | succ r ih =>
      intro y k h2 hy hty hk m2 p2 fl
      refine w_TA_paintRows_6 (m2.1.trans hS) (by rw [m2.1]; exact s1) (by rw [m2.1]; exact s2) ⟨by omega, by omega, fun u => by omega, fun _ => ?_⟩
      have hrow : (y - top + 1) * rbn g w ≤ (bot - top) * rbn g w := Int.mul_le_mul_of_nonneg_right (by omega) (by omega)
      rw [Int.add_mul, Int.one_mul] at hrow
      have cols : ∀ (m : Nat) (i : Int) (k2 : Nat) (h3 : fx_H), i + m = rbn g w → 0 ≤ i → (k2 : Int) = (y - top) * rbn g w + i → sm (fun j => j = p + 1) h h3 → cP h3 p g w t (dF g w f top (B.take k2)) → flA g w (B.take k2) → fx_V l M_TA_paintRows (0, 0) Q 0 0 15 [some (.ref 16), some (.ref p), none, some (.int (zI bot)), some (.int (zI (k2 : Nat))), some (.int (zI y)), some (.int (zI i))] [] h3 := by
        intro m
        induction m with
        | zero =>
          intro i k2 h3 hi hi0 hk2 m3 p3 fl3
          have e3 : i = rbn g w := by omega
          refine w_TA_paintRows_15 (m3.1.trans hS) (by rw [m3.1]; exact s1) (by rw [m3.1]; exact s2) (m_rowBytesP p3 ⟨_, rfl, rfl, by omega, by omega, fun _ => ih (y + 1) k2 h3 (by omega) (by omega) ?_ m3 p3 fl3, fun u => by omega⟩)
          rw [hk2, e3, show y + 1 - top = y - top + 1 by omega, Int.add_mul, Int.one_mul]
        | succ m ihm =>
          intro i k2 h3 hi hi0 hk2 m3 p3 fl3
          have hlt : k2 < B.length := by omega
          have hb := hB.get k2
          have hl : ((B.take k2).length : Int) = (y - top) * rbn g w + i := by rw [List.length_take]; omega
          refine w_TA_paintRows_15 (m3.1.trans hS) (by rw [m3.1]; exact s1) (by rw [m3.1]; exact s2) (m_rowBytesP p3 ⟨_, rfl, rfl, by omega, by omega, fun u => by omega, fun _ => ⟨by omega, fun u => by omega, fun _ => ⟨by omega, by omega, ?_⟩⟩⟩)
          rw [Int.toNat_natCast, m3.2.2.1 17 k2 (by omega), a17 k2 hlt]
          have e1 : (k2 : Int) + 1 = ((k2 + 1 : Nat) : Int) := by omega
          rw [e1]
          refine m_paintD p3 of (hB.take k2) h0 hty (by omega) hi0 (by omega) hl hb.1 hb.2 (fun hf h5 m5 p5 => ⟨1, rfl, m5.1, by omega, fun _ => ?_, fun u2 => by omega⟩) (fun hf h5 m5 => ⟨0, rfl, m5.1, by omega, fun u2 => absurd rfl u2, fun _ => k0 (fun u2 => hf ?_) h5 (m3.tr m5)⟩)
          · rw [← take_s hlt] at p5
            refine ihm (i + 1) (k2 + 1) h5 (by omega) (by omega) (by omega) (m3.tr m5) p5 ?_
            rw [take_s hlt, flA_app]
            refine ⟨fl3, ?_⟩
            rw [idx_mod hl hi0 (by omega)]; exact hf
          · have := u2 k2 hlt
            rw [idx_mod hk2 hi0 (by omega)] at this
            exact this
      exact cols (rbn g w).toNat 0 k h2 (by omega) (by omega) (by omega) m2 p2 fl
  refine rows (bot - top).toNat top 0 h (by omega) (by omega) (by rw [Int.sub_self, Int.zero_mul]; rfl) sm.rf ?_ (fun k hk => by simp at hk)
  rw [List.take_zero, dF_nil _ _ _ _ (by omega)]; exact cp
/-- places that reading a strip changes -/
abbrev sU (p : Nat) : Nat → Prop := fun j => j = 3 ∨ (16 ≤ j ∧ j ≤ 22) ∨ j = p + 1
theorem m_TAunpack {bot : Int} (hS : h.1 = fx_S0 a pp dd) (cp : cP h p g w t f) (cr : cRd h L b q0 e) (h0 : 0 ≤ top) (htb : top ≤ bot) (hbt : bot ≤ t) (hT : (T : Int) = (bot - top) * rbn g w) (k1 : ∀ f2, tbO L e g w top T q0 f = some f2 → ∀ h2, sm (sU p) h h2 → cP h2 p g w t f2 → cL h2 L b → Q (some (.int (zI 1))) h2) (k0 : tbO L e g w top T q0 f = none → ∀ h2, sm (sU p) h h2 → Q (some (.int (zI 0))) h2) : fx_Mt l M_TA_unpack (0, 0) [.ref 16, .ref p, .int (zI top), .int (zI bot)] h Q := by
  obtain ⟨⟨a1, s1⟩, ⟨a2, s2⟩, -⟩ := cp.1
  have hp27 := cp.2.2.1
  have of := cp.2.2.2.2.2.2.2
  have hr := of.rb
  have ht24 : t ≤ 24 := of.2.2.2.2.1
  have hT4 := of.T4 h0 htb hbt
  have eT : rbn g w * (bot - top) = (T : Int) := by rw [hT, Int.mul_comm]
  unfold tbO at k1 k0
  refine e_TA_unpack hS s1 s2 (m_rowBytesP cp ⟨_, rfl, rfl, ?_⟩)
  rw [eT, if_neg (by omega)]
  refine ⟨by omega, m_bitsOfCode hS (by omega) ⟨_, rfl, rfl, ?_⟩⟩
  have e9 : dg 0 = ((9 : Nat) : Int) := by decide +kernel
  rw [e9]
  have hc0 := (bn_R L q0 9).1
  have hc1 := bn_lt L q0 (show 9 ≤ 9 by omega)
  refine m_numberB (n := 9) hS cr (by omega) (fun u h2 m2 c2 => ?_) (fun u => ⟨_, rfl, rfl, by omega, fun _ => k0 (if_pos (Or.inl (by omega))) h sm.rf, fun u2 => by omega⟩)
  have to2 : sm (sU p) h h2 := m2.mono fun j u9 => Or.inl u9
  refine ⟨_, rfl, m2.1, by omega, fun u2 => k0 (if_pos (Or.inr u2)) h2 to2, fun u2 => ?_⟩
  rw [if_neg (by omega)] at k1 k0
  have e99 : q0 + ((9 : Nat) : Int) = q0 + 9 := rfl
  rw [e99] at c2
  have toT : ∀ {h3 h4 : fx_H}, sm sT h3 h4 → sm (sU p) h3 h4 := fun m => m.mono fun j u9 => by omega
  refine m_unpackCodes (m2.1.trans hS) c2 (by omega) (fun q B er hBl hB h3 m3 c3 a3 => ⟨1, rfl, m3.1, by omega, fun u3 => by omega, fun _ => ?_⟩) (fun hl h3 m3 => ⟨0, rfl, m3.1, by omega, fun _ => k0 ?_ h3 (to2.tr (toT m3)), fun u3 => absurd rfl u3⟩)
  · rw [er] at k1 k0
    have m23 := to2.tr (toT m3)
    refine m_onlyFillLeft (m23.1.trans hS) c3 (fun hrs h4 m4 c4 => ⟨1, rfl, m4.1, by omega, fun u3 => by omega, fun _ => ?_⟩) (fun hrs h4 m4 => ⟨0, rfl, m4.1, by omega, fun _ => k0 (opt_neg (fun u9 => hrs u9.2.1) _) h4 (m23.tr (m4.mono fun j u9 => Or.inl u9)), fun u3 => absurd rfl u3⟩)
    have m24 : sm (sU p) h h4 := m23.tr (m4.mono fun j u9 => Or.inl u9)
    have p4 : cP h4 p g w t f := ((cp.sm m2 (by omega) (by omega)).sm m3 (by omega) (by omega)).sm m4 (by omega) (by omega)
    refine m_paintRows (m24.1.trans hS) p4 hB (fun i hi => by rw [m4.2.2.1 17 i (by omega)]; exact a3 i hi) h0 htb hbt (by omega) (fun fl h5 m5 p5 => ⟨1, rfl, m5.1, by omega, fun u3 => by omega, fun _ => k1 _ (opt_pos ⟨hBl, hrs, fl⟩ _) h5 (m24.tr (m5.mono fun j u9 => Or.inr (Or.inr u9))) p5 (c4.1.sm m5 (by omega) (by omega))⟩) (fun fl h5 m5 => ⟨0, rfl, m5.1, by omega, fun _ => k0 (opt_neg (fun u9 => fl u9.2.2) _) h5 (m24.tr (m5.mono fun j u9 => Or.inr (Or.inr u9))), fun u3 => absurd rfl u3⟩)
  · split
    · rfl
    · rename_i q9 B9 u9
      exact opt_neg (fun u => hl q9 B9 u9 u.1) _
end RT2
