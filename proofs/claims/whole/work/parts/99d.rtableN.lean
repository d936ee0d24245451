/-! strips TABLE: the reference's codes -/
def tG (L : List Int) (e : Int) (T : Nat) (p q : Int) (B : List Int) : Prop := (p + 9 ≤ e ∧ bn L p 9 = 256) ∧ tbS L e T FU (p + 9) [] [] [] = some (q, B) ∧ B.length = T ∧ rest L q e
section TN
variable {l : Launch} {Q : Option Value → fx_H → Prop} {h : fx_H} {a : Nat → Nat} {pp dd : Nat} {L : List Int} {p e z : Int} {T : Nat}
theorem mo.w {h h2 : fx_H} (m : mo wS wSF h h2) : mo vA vF h h2 := m.mono (fun j q => by omega) (fun k q => by omega)
theorem mo.tm {h h2 : fx_H} (m : mo tM tMF h h2) : mo vA vF h h2 := m.mono (fun j q => by omega) (fun k q => by omega)
theorem m_inTable (hS : h.1 = fx_S0 a pp dd) (cb : mB h L p e 0) (ms : mS h []) (hT : T ≤ 400) (k1 : ∀ q B, tG L e T p q B → isB B → ∀ h2, mo vA vF h h2 → mB h2 L e e 0 → mS h2 B → Q none h2) (k0 : (∀ q B, ¬ tG L e T p q B) → ∀ h2 p2, mo vA vF h h2 → mB h2 L p2 e 1 → Q none h2) : fx_Mt l M_MO_inTable (0, 0) [.ref 31, .int (zI (T : Nat))] h Q := by
  have hel := cb.2.2.2.2.2.2.1
  have hln := cb.2.2.2.2.2.2.2.1
  have hp0 := cb.2.2.2.2.1
  refine e_MO_inTable hS ?_
  -- how it ends
  have fin : ∀ (h2 : fx_H) (p2 z2 : Int) (B : List Int), B.length ≤ 400 → isB B → mo vA vF h h2 → mB h2 L p2 e z2 → mS h2 B → (z2 = 0 → ∀ (_ : B.length = T) (_ : rest L p2 e), tG L e T p p2 B) → ((¬ z2 = 0 ∨ ¬ B.length = T ∨ ¬ rest L p2 e) → ∀ q B, ¬ tG L e T p q B) → zR (h2.2.1 31 27) ∧ zR (T : Int) ∧ ((¬ (h2.2.1 31 27) = (T : Int) → fx_Mt l M_MO_need (0, 0) [.ref 31, .int (zI 0)] h2 (fun v h6 => ∃ r8 : Int, v = some (.int (zI r8)) ∧ h6.1 = h2.1 ∧ fx_Mt l M_MO_inRest (0, 0) [.ref 31] h6 (fun v h9 => v = none ∧ h9.1 = h6.1 ∧ Q none h9))) ∧ ((h2.2.1 31 27) = (T : Int) → fx_Mt l M_MO_need (0, 0) [.ref 31, .int (zI 1)] h2 (fun v h11 => ∃ r13 : Int, v = some (.int (zI r13)) ∧ h11.1 = h2.1 ∧ fx_Mt l M_MO_inRest (0, 0) [.ref 31] h11 (fun v h14 => v = none ∧ h14.1 = h11.1 ∧ Q none h14)))) := by
    intro h2 p2 z2 B hBl hB m2 c2 s2 good bad
    have hS2 := m2.S.trans hS
    have hz2 := c2.2.2.2.1
    rw [s2.1]
    refine ⟨by omega, by omega, fun u => m_needF hS2 c2 fun h3 m3 c3 => ⟨_, rfl, m3.S, ?_⟩, fun u => m_needT hS2 c2 fun h3 m3 c3 => ⟨_, rfl, m3.S, ?_⟩⟩
    · have m23 := m2.tr m3.v
      exact m_inRest (m23.S.trans hS) c3 (fun u2 => by omega) (fun _ h4 p4 m4 c4 => ⟨rfl, m4.S, k0 (bad (Or.inr (Or.inl (by omega)))) h4 p4 (m23.tr m4.v) c4⟩)
    · have m23 := m2.tr m3.v
      refine m_inRest (m23.S.trans hS) c3 (fun z0 hr h4 m4 c4 => ⟨rfl, m4.S, k1 _ _ (good z0 (by omega) hr) hB h4 (m23.tr m4.v) c4 ((s2.mo m3 (by omega) (by omega)).mo m4 (by omega) (by omega))⟩) (fun hl h4 p4 m4 c4 => ⟨rfl, m4.S, k0 (bad ?_) h4 p4 (m23.tr m4.v) c4⟩)
      rcases hl with hl | hl
      · exact Or.inl (by omega)
      · exact Or.inr (Or.inr hl)
  have stop : ∀ (h2 : fx_H) (p2 x2 x3 x4 : Int) (B : List Int), (∀ q B, ¬ tG L e T p q B) → zR x4 → B.length ≤ 400 → isB B → mo vA vF h h2 → mB h2 L p2 e 1 → mS h2 B → fx_V l M_MO_inTable (0, 0) Q 0 0 36 [some (.ref 31), some (.int (zI (T : Nat))), some (.int (zI x2)), some (.int (zI x3)), some (.int (zI x4)), none] [] h2 := by
    intro h2 p2 x2 x3 x4 B lost h4 hBl hB m2 c2 s2
    have f := fin h2 p2 1 B hBl hB m2 c2 s2 (fun u => by omega) (fun _ => lost)
    refine w_MO_inTable_36 (m2.S.trans hS) ⟨h4, fun _ => f, fun _ => ?_⟩
    rw [c2.2.2.1]
    exact ⟨by omega, fun _ => f, fun u => by omega⟩
  have loop : ∀ (m : Nat) (p1 x3 : Int) (E : List (List Int)) (last B : List Int) (D1 D2 : Nat → Int) (h2 : fx_H), e - p1 < m → (p + 9 ≤ e ∧ bn L p 9 = 256) → B.length ≤ T → isB B → last.length ≤ T → (last.length = 0 → E = [] ∧ x3 = -1) → (0 < last.length → vcO E.length x3 ∧ strE E x3 = last ∧ E.length + 1 ≤ B.length) → (∀ j : Nat, j < E.length → (E.getD j []).length ≤ T + 1) → chO E D1 D2 → mo vA vF h h2 → mB h2 L p1 e 0 → mS h2 B → mT h2 E.length D1 D2 → tbS L e T FU (p + 9) [] [] [] = tbS L e T m p1 E last B → fx_V l M_MO_inTable (0, 0) Q 0 0 36 [some (.ref 31), some (.int (zI (T : Nat))), some (.int (zI (nthO E last - 1))), some (.int (zI x3)), some (.int (zI 1)), none] [] h2 := by
    intro m
    induction m with
    | zero => intro p1 x3 E last B D1 D2 h2 hm _ _ _ _ _ _ _ _ _ c2; have := c2.2.2.2.2.2.1; omega
    | succ m ih =>
      intro p1 x3 E last B D1 D2 h2 hm hst hBT hB hlaT hl0 hl1 hEl ch m2 c2 s2 t2 er
      have hS2 := m2.S.trans hS
      have d5 := c2.2.2.2.2.1
      have d6 := c2.2.2.2.2.2.1
      have hEn : E.length ≤ 400 := by
        by_cases hl : last.length = 0
        · rw [(hl0 hl).1]; simp
        · have := (hl1 (by omega)).2.2; omega
      have hnth : 1 ≤ nthO E last ∧ nthO E last ≤ 402 := by
        unfold nthO
        split <;> omega
      have hx3 : (last.length = 0 ↔ x3 < 0) ∧ -1 ≤ x3 ∧ x3 ≤ 700 := by
        by_cases hl : last.length = 0
        · have := (hl0 hl).2; omega
        · have := (hl1 (by omega)).1
          unfold vcO at this
          omega
      rw [tbS_s] at er
      obtain ⟨d, hd, hd9, hd11⟩ := dg_nat (nthO E last)
      rw [hd, Int.toNat_natCast] at er
      have lostOf : tbS L e T FU (p + 9) [] [] [] = none → ∀ q B, ¬ tG L e T p q B := fun u q B u2 => by rw [u2.2.1] at u; exact absurd u (by simp)
      refine w_MO_inTable_36 hS2 ⟨by omega, fun u => by omega, fun _ => ?_⟩
      rw [c2.2.2.1]
      refine ⟨by omega, fun u => absurd rfl u, fun _ => ?_⟩
      have en : nthO E last - 1 + 1 = nthO E last := by omega
      rw [en]
      refine m_digitsOf hS2 (by omega) ⟨_, rfl, rfl, ?_⟩
      rw [hd]
      refine m_inBitsW hS2 c2 (by omega) fun h3 c p3 z3 m3 c3 r0 r1 g3 l3 => ?_
      have r11 := p2_le hd11
      have m23 := m2.tr m3.v
      have hS3 := m23.S.trans hS
      have hz3 := c3.2.2.2.1
      have s3 : mS h3 B := s2.mo m3 (by omega) (by omega)
      have t3 : mT h3 E.length D1 D2 := t2.mo m3 (by omega) (by omega) (by omega)
      have bad3 : ¬ z3 = 0 → ∀ q B, ¬ tG L e T p q B := fun u => lostOf (by rw [er, if_pos (by rcases l3 u with q | q; omega; omega)])
      have ok3 : z3 = 0 → p3 = p1 + d ∧ tbS L e T FU (p + 9) [] [] [] = (if c = 257 then some (p1 + d, B) else if c = 256 then tbS L e T m (p1 + d) [] [] B else match strC E last c with | none => none | some s => if T < B.length + s.length then none else tbS L e T m (p1 + d) (nxE E last s) s (B ++ s)) := by
        intro u
        obtain ⟨q1, q2, q3, q4⟩ := g3 u
        refine ⟨q4, ?_⟩
        rw [er, if_neg (by omega), ← q3]
        rfl
      -- behind storeEntry
      have behind : ∀ (h5 : fx_H) (E2 : List (List Int)) (F1 F2 : Nat → Int) (s : List Int), ¬ c = 257 → ¬ c = 256 → strC E last c = some s → E2 = nxE E last s → vcO E2.length c → strE E2 c = s → chO E2 F1 F2 → (∀ j : Nat, j < E2.length → (E2.getD j []).length ≤ T + 1) → E2.length ≤ 401 → (0 < s.length → E2.length ≤ B.length) → mo vA vF h h5 → mB h5 L p3 e z3 → mS h5 B → mT h5 E2.length F1 F2 → fx_Mt l M_MO_storeEntry (0, 0) [.ref 31, .int (zI c), .int (zI (T : Nat))] h5 (fun v h6 => v = none ∧ h6.1 = h5.1 ∧ fx_V l M_MO_inTable (0, 0) Q 0 0 36 [some (.ref 31), some (.int (zI (T : Nat))), some (.int (zI (nthO E last))), some (.int (zI c)), some (.int (zI 1)), none] [] h6) := by
        intro h5 E2 F1 F2 s n7 n6 hs hE2 hvc hstr ch2 hEl2 hE2n hE2B m5 c5 s5 t5
        have hspos := ch2.pos hvc
        rw [hstr] at hspos
        have hsB := ch2.isB c.toNat c (Nat.le_refl _) hvc
        rw [hstr] at hsB
        have hsl : s.length ≤ T + 1 ∨ s.length = 1 := by
          rw [← hstr]
          unfold vcO at hvc
          rcases hvc with hv | hv
          · rw [strE_lo _ hv.2]; exact Or.inr rfl
          · obtain ⟨j, rfl⟩ : ∃ j : Nat, c = 258 + j := ⟨(c - 258).toNat, by omega⟩
            rw [strE_hi]; exact Or.inl (hEl2 j (by omega))
        refine m_storeEntry (m5.S.trans hS) t5 ch2 (by omega) hvc c5 s5 hT (by omega) (by rw [hstr]; omega) fun h6 z6 m6 c6 hz6 sg sb => ⟨rfl, m6.S, ?_⟩
        rw [hstr] at hz6 sg sb
        have hz601 := c6.2.2.2.1
        have m56 := m5.tr m6.w
        by_cases z60 : z6 = 0
        · obtain ⟨z30, hcap⟩ := hz6.mp z60
          subst z60
          obtain ⟨ep3, er3⟩ := ok3 z30
          rw [if_neg n7, if_neg n6] at er3
          simp only [hs] at er3
          rw [if_neg (by omega)] at er3
          have hn9 : nthO E2 s - 1 = nthO E last := by
            rw [hE2]
            unfold nthO nxE
            rw [if_neg (by omega)]
            by_cases hl : last.length = 0
            · rw [if_pos hl, if_pos hl]; simp
            · rw [if_neg hl, if_neg hl, List.length_append, List.length_singleton]; omega
          rw [← hn9]
          rw [ep3] at c6
          refine ih (p1 + d) c E2 s (B ++ s) F1 F2 h6 (by omega) hst (by rw [List.length_append]; omega) (hB.app hsB) (by omega) (fun u => by omega) (fun _ => ⟨hvc, hstr, ?_⟩) hEl2 ch2 m56 c6 (sg hcap) (t5.mo m6 (by omega) (by omega) (by omega)) (by rw [er3, hE2])
          rw [List.length_append]
          have := hE2B hspos
          omega
        · have z61 : z6 = 1 := by omega
          subst z61
          by_cases hcap : B.length + s.length ≤ T
          · refine stop h6 _ _ _ _ (B ++ s) (bad3 (fun u => ?_)) (by omega) (by rw [List.length_append]; omega) (hB.app hsB) m56 c6 (sg hcap)
            have := hz6.mpr ⟨u, hcap⟩; omega
          · refine stop h6 _ _ _ _ B ?_ (by omega) (by omega) hB m56 c6 (sb hcap)
            by_cases z30 : z3 = 0
            · obtain ⟨ep3, er3⟩ := ok3 z30
              rw [if_neg n7, if_neg n6] at er3
              simp only [hs] at er3
              rw [if_pos (by omega)] at er3
              exact lostOf er3
            · exact bad3 z30
      have noS : strC E last c = none → ¬ c = 257 → ¬ c = 256 → ∀ q B, ¬ tG L e T p q B := by
        intro hs n7 n6
        by_cases z30 : z3 = 0
        · obtain ⟨ep3, er3⟩ := ok3 z30
          rw [if_neg n7, if_neg n6] at er3
          simp only [hs] at er3
          exact lostOf er3
        · exact bad3 z30
      refine ⟨_, rfl, m3.S, by omega, fun n6 => ⟨fun n7 => ⟨by omega, fun u3 => ?_, fun u3 => ⟨fun u6 => ?_, fun u6 => ?_⟩⟩, fun u7 => ?_⟩, fun u6 => ?_⟩
      · -- behind another code
        have hl : ¬ last.length = 0 := fun u => by have := hx3.1.mp u; omega
        obtain ⟨v1, v2, v3⟩ := hl1 (by omega)
        rw [t3.1]
        refine ⟨by omega, fun u4 => m_needF hS3 c3 fun h4 m4 c4 => ⟨_, rfl, m4.S, by omega, fun _ => ?_, fun u5 => absurd rfl u5⟩, fun u4 => m_needT hS3 c3 fun h4 m4 c4 => ⟨_, rfl, m4.S, by omega, fun u5 => by omega, fun _ => ⟨fun u5 => by omega, fun _ => ?_⟩⟩⟩
        · refine stop h4 _ _ _ _ B (noS ?_ n7 n6) (by omega) (by omega) hB (m23.tr m4.v) c4 (s3.mo m4 (by omega) (by omega))
          unfold strC
          rw [if_neg (by omega), if_neg hl, if_neg (by omega), if_neg (by omega)]
        · have m24 := m23.tr m4.v
          have hS4 := m24.S.trans hS
          have s4 : mS h4 B := s3.mo m4 (by omega) (by omega)
          have t4 : mT h4 E.length D1 D2 := t3.mo m4 (by omega) (by omega) (by omega)
          rw [t4.1]
          -- the entry is made
          have mk : ∀ u : Int, ∀ s : List Int, strC E last c = some s → u = s.getD 0 0 → 0 ≤ u ∧ u < 256 → fx_Mt l M_MO_make (0, 0) [.ref 31, .int (zI x3), .int (zI u)] h4 (fun v h57 => v = none ∧ h57.1 = h4.1 ∧ fx_Mt l M_MO_storeEntry (0, 0) [.ref 31, .int (zI c), .int (zI (T : Nat))] h57 (fun v h59 => v = none ∧ h59.1 = h57.1 ∧ (fx_V l M_MO_inTable (0, 0) Q 0 0 36 [some (.ref 31), some (.int (zI (T : Nat))), some (.int (zI (nthO E last))), some (.int (zI c)), some (.int (zI 1)), none] [] h59))) := by
            intro u s hs hu huR
            have hE2 : nxE E last s = E ++ [last ++ [u]] := by unfold nxE; rw [if_neg hl, hu]
            have hlen2 : (E ++ [last ++ [u]]).length = E.length + 1 := by rw [List.length_append, List.length_singleton]
            refine m_make hS4 t4 (by omega) fun h5 m5 t5 => ⟨rfl, m5.S, ?_⟩
            have ch2 : chO (E ++ [last ++ [u]]) (du D1 E.length x3) (du D2 E.length u) := by
              have := ch.app v1 huR
              rw [v2] at this; exact this
            have hvc : vcO (E ++ [last ++ [u]]).length c := by
              rw [hlen2]
              unfold vcO
              omega
            have hstr : strE (E ++ [last ++ [u]]) c = s := by
              unfold strC at hs
              by_cases h6 : c < 256
              · rw [if_pos h6] at hs
                injection hs with hs
                rw [strE_lo _ h6]; exact hs
              · rw [if_neg h6, if_neg hl] at hs
                obtain ⟨j, rfl⟩ : ∃ j : Nat, c = 258 + j := ⟨(c - 258).toNat, by omega⟩
                rw [strE_hi]
                by_cases h7 : (258 : Int) + j < 258 + E.length
                · rw [if_pos h7] at hs
                  injection hs with hs
                  rw [getE_l (by omega), ← hs, show ((258 : Int) + (j : Int) - 258).toNat = j by omega]
                · rw [if_neg h7, if_pos (by omega)] at hs
                  injection hs with hs
                  have hjE : j = E.length := by omega
                  subst hjE
                  rw [getE_r, hu, ← hs, getD_l (by omega)]
            exact behind h5 _ _ _ s n7 n6 hs hE2.symm hvc hstr ch2 (fun j hj => by
              rw [hlen2] at hj
              by_cases e9 : j = E.length
              · subst e9; rw [getE_r, List.length_append, List.length_singleton]; omega
              · rw [getE_l (by omega)]; exact hEl j (by omega)) (by rw [hlen2]; omega) (fun _ => by rw [hlen2]; omega) (m24.tr m5.tm) (c4.mo m5 (by omega) (by omega) (by omega) (by omega)) (s4.mo m5 (by omega) (by omega)) (by rw [hlen2]; exact t5)
          refine ⟨by omega, fun u8 => ?_, fun u8 => ?_⟩
          · have hvc : vcO E.length c := by unfold vcO; omega
            refine m_firstOf hS4 t4 ch (by omega) hvc ⟨_, rfl, rfl, mk _ (strE E c) ?_ rfl ?_⟩
            · unfold strC strE
              by_cases h6 : c < 256
              · rw [if_pos h6, if_pos h6]
              · rw [if_neg h6, if_neg hl, if_pos (by omega), if_neg h6]
            · exact (ch.isB c.toNat c (Nat.le_refl _) hvc).get 0
          · refine m_firstOf hS4 t4 ch (by omega) v1 ⟨_, rfl, rfl, mk _ (last ++ [last.getD 0 0]) ?_ ?_ ?_⟩
            · unfold strC
              rw [if_neg (by omega), if_neg hl, if_neg (by omega), if_pos (by omega)]
            · rw [v2, getD_l (by omega)]
            · exact (ch.isB x3.toNat x3 (Nat.le_refl _) v1).get 0
      · have hl : last.length = 0 := hx3.1.mpr (by omega)
        refine m_needF hS3 c3 fun h4 m4 c4 => ⟨_, rfl, m4.S, by omega, fun _ => ?_, fun u5 => absurd rfl u5⟩
        refine stop h4 _ _ _ _ B (noS ?_ n7 n6) (by omega) (by omega) hB (m23.tr m4.v) c4 (s3.mo m4 (by omega) (by omega))
        unfold strC
        rw [if_neg (by omega), if_pos hl]
      · have hl : last.length = 0 := hx3.1.mpr (by omega)
        obtain ⟨hE0, hx0⟩ := hl0 hl
        subst hE0
        refine m_needT hS3 c3 fun h4 m4 c4 => ⟨_, rfl, m4.S, by omega, fun u5 => by omega, fun _ => ⟨fun _ => ?_, fun u5 => by omega⟩⟩
        exact behind h4 [] D1 D2 [c] n7 n6 (by unfold strC; rw [if_pos (by omega)]) (by unfold nxE; rw [if_pos hl]) (Or.inl ⟨r0, by omega⟩) (strE_lo _ (by omega)) ch (fun j hj => by simp at hj) (by simp) (fun _ => by simp) (m23.tr m4.v) c4 (s3.mo m4 (by omega) (by omega)) (t3.mo m4 (by omega) (by omega) (by omega))
      · -- the end
        have f := fin h3 p3 z3 B (by omega) hB m23 c3 s3 (fun u hBl hr => ⟨hst, by rw [(ok3 u).2, if_pos u7, (ok3 u).1], hBl, hr⟩) (fun u q9 B9 v9 => by
          by_cases z30 : z3 = 0
          · obtain ⟨ep3, er3⟩ := ok3 z30
            rw [if_pos u7] at er3
            have v91 := v9.2.1
            rw [er3] at v91
            injection v91 with v91
            injection v91 with v92 v93
            subst v93
            rcases u with u | u | u
            · exact u z30
            · exact u v9.2.2.1
            · rw [ep3, v92] at u; exact u v9.2.2.2
          · exact bad3 z30 q9 B9 v9)
        refine w_MO_inTable_36 hS3 ⟨by omega, fun _ => f, fun u => by omega⟩
      · -- from the beginning
        have mu : mo vA vF h3 (fx_uF h3 31 28 258) := mo.uF (by omega)
        have mu2 : mo vA (fun k => k = 28) h3 (fx_uF h3 31 28 258) := mo.uF rfl
        have mu3 : mo fN (fun k => k = 28) h3 (fx_uF h3 31 28 258) := mo.uF rfl
        have c4 : mB (fx_uF h3 31 28 258) L p3 e z3 := c3.mo mu2 (by omega) (by omega) (by omega) (by omega)
        have s4 : mS (fx_uF h3 31 28 258) B := s3.mo mu3 (by omega) (by omega)
        by_cases z30 : z3 = 0
        · obtain ⟨ep3, er3⟩ := ok3 z30
          rw [if_neg (by omega), if_pos u6] at er3
          subst z30
          rw [ep3] at c4
          have := ih (p1 + d) (-1) [] [] B D1 D2 _ (by omega) hst hBT hB (by simp) (fun _ => ⟨rfl, rfl⟩) (fun u => by simp at u) (fun j hj => by simp at hj) (fun j hj => by simp at hj) (m23.tr mu) c4 s4 ⟨uF_s _ _ _ _, fun k hk => by simp at hk⟩ er3
          exact this
        · have z31 : z3 = 1 := by omega
          subst z31
          exact stop _ _ _ _ _ B (bad3 z30) (by omega) (by omega) hB (m23.tr mu) c4 s4
  refine m_inBitsW (n := 9) hS cb (by omega) fun h2 r p2 z2 m2 c2 r0 r1 g2 l2 => ⟨_, rfl, m2.S, by omega, fun u => m_needF (m2.S.trans hS) c2 fun h3 m3 c3 => ⟨_, rfl, m3.S, ?_⟩, fun u => m_needT (m2.S.trans hS) c2 fun h3 m3 c3 => ⟨_, rfl, m3.S, ?_⟩⟩
  · have mu : mo vA vF h3 (fx_uF h3 31 28 258) := mo.uF (by omega)
    have mu2 : mo fN (fun k => k = 28) h3 (fx_uF h3 31 28 258) := mo.uF rfl
    refine stop _ _ _ _ _ [] (fun q B u9 => ?_) (by omega) (by simp) isB_nil ((m2.tr m3).v.tr mu) (c3.mo mu2 (by omega) (by omega) (by omega) (by omega)) (((ms.mo m2 (by omega) (by omega)).mo m3 (by omega) (by omega)).mo mu2 (by omega) (by omega))
    by_cases z20 : z2 = 0
    · exact u ((g2 z20).2.2.1.trans u9.1.2)
    · rcases l2 z20 with q9 | q9
      · omega
      · have := u9.1.1; omega
  · have mu : mo vA vF h3 (fx_uF h3 31 28 258) := mo.uF (by omega)
    have mu2 : mo fN (fun k => k = 28) h3 (fx_uF h3 31 28 258) := mo.uF rfl
    have c4 := c3.mo mu2 (by omega) (by omega) (by omega) (by omega)
    have s4 := ((ms.mo m2 (by omega) (by omega)).mo m3 (by omega) (by omega)).mo mu2 (by omega) (by omega)
    have hz2 := c2.2.2.2.1
    by_cases z20 : z2 = 0
    · obtain ⟨q1, q2, q3, q4⟩ := g2 z20
      subst z20
      have q4' : p2 = p + 9 := q4
      rw [q4'] at c4
      have := loop FU (p + 9) (-1) [] [] [] (fun _ => 0) (fun _ => 0) _ (FU_16 hel hln (by omega)) ⟨by omega, by rw [← q3]; exact u⟩ (by simp) isB_nil (by simp) (fun _ => ⟨rfl, rfl⟩) (fun u => by simp at u) (fun j hj => by simp at hj) (fun j hj => by simp at hj) ((m2.tr m3).v.tr mu) c4 s4 ⟨uF_s _ _ _ _, fun k hk => by simp at hk⟩ rfl
      exact this
    · have z21 : z2 = 1 := by omega
      subst z21
      refine stop _ _ _ _ _ [] (fun q B u9 => ?_) (by omega) (by simp) isB_nil ((m2.tr m3).v.tr mu) c4 s4
      rcases l2 z20 with q9 | q9
      · omega
      · have := u9.1.1; omega
end TN
