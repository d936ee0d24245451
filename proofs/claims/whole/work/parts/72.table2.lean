/-! TABLE in writing: the reference -/
abbrev tA : Nat → Prop := fun j => j = 33 ∨ j = 39 ∨ j = 40
abbrev tF : Nat → Prop := fun k => k = 5 ∨ k = 18 ∨ k = 19 ∨ k = 28
def mT (h : fx_H) (n : Nat) (D1 D2 : Nat → Int) : Prop := h.2.1 31 28 = 258 + n ∧ ∀ k : Nat, k < n → h.2.2.1 39 (258 + k) = D1 k ∧ h.2.2.1 40 (258 + k) = D2 k
section TB
variable {l : Launch} {Q : Option Value → fx_H → Prop} {h : fx_H} {a : Nat → Nat} {pp dd : Nat} {n : Nat} {D1 D2 : Nat → Int}
theorem mT.o {h h2 : fx_H} (c : mT h n D1 D2) (m : mo oA oF h h2) : mT h2 n D1 D2 := ⟨by rw [m.2 28 (by omega)]; exact c.1, fun k hk => by rw [m.1.2.2.1 39 _ (by omega), m.1.2.2.1 40 _ (by omega)]; exact c.2 k hk⟩
theorem mo.t {h h2 : fx_H} (m : mo oA oF h h2) : mo tA tF h h2 := m.mono (fun j z => by omega) (fun k z => by omega)
theorem m_longer {x b : Int} (hS : h.1 = fx_S0 a pp dd) (c : mT h n D1 D2) (d : dOK n D1 D2) (hn : n ≤ 440) (hx : zR x) (hb : zR b) (k : Q (some (.int (zI (if fnd D1 D2 x b n = 0 then -1 else fnd D1 D2 x b n)))) h) : fx_Mt l M_MO_longer (0, 0) [.ref 31, .int (zI x), .int (zI b)] h Q := by
  refine e_MO_longer hS ?_
  have loop : ∀ (m j : Nat), j + m = n → fx_V l M_MO_longer (0, 0) Q 0 0 7 [some (.ref 31), some (.int (zI x)), some (.int (zI b)), some (.int (zI (if fnd D1 D2 x b j = 0 then -1 else fnd D1 D2 x b j))), some (.int (zI (258 + (j : Nat))))] [] h := by
    intro m
    induction m with
    | zero =>
      intro j hj
      have hjn : j = n := by omega
      have := c.1
      rw [hjn]
      exact w_MO_longer_7 hS ⟨by omega, by omega, fun _ => k, fun z => by omega⟩
    | succ m ih =>
      intro j hj
      have := c.1
      have dj := d j (by omega)
      have ih1 := ih (j + 1) (by omega)
      have e1 : 258 + ((j : Nat) : Int) + 1 = 258 + ((j + 1 : Nat) : Int) := by omega
      have e2 : (258 + ((j : Nat) : Int)).toNat = 258 + j := by omega
      rw [fnd] at ih1
      refine w_MO_longer_7 hS ⟨by omega, by omega, fun z => by omega, fun _ => ⟨by omega, by omega, ?_⟩⟩
      rw [e1, e2, (c.2 j (by omega)).1, (c.2 j (by omega)).2]
      refine ⟨by omega, hx, fun z => ?_, fun z => ⟨by omega, by omega, by omega, hb, fun z2 => ?_, fun z2 => ?_⟩⟩
      · rw [if_neg (show ¬ (D1 j = x ∧ D2 j = b) from fun q => z q.1)] at ih1
        exact ih1
      · rw [if_neg (show ¬ (D1 j = x ∧ D2 j = b) from fun q => z2 q.2)] at ih1
        exact ih1
      · rw [if_pos (show (D1 j = x ∧ D2 j = b) from ⟨z, z2⟩), if_neg (by omega)] at ih1
        exact ih1
  exact loop n 0 (Nat.zero_add _)
theorem m_digitsOf {x : Int} (hS : h.1 = fx_S0 a pp dd) (hx : zR x) (k : Q (some (.int (zI (dg x)))) h) : fx_Mt l M_MO_digitsOf (0, 0) [.int (zI x)] h Q := by
  unfold dg at k
  refine e_MO_digitsOf hS ⟨hx, fun z => ⟨fun z2 => ?_, fun z2 => ?_⟩, fun z => ?_⟩
  · rw [if_pos z, if_pos z2] at k; exact k
  · rw [if_pos z, if_neg z2] at k; exact k
  · rw [if_neg z] at k; exact k
abbrev tM : Nat → Prop := fun j => j = 39 ∨ j = 40
abbrev tMF : Nat → Prop := fun k => k = 28
theorem m_make {x b : Int} (hS : h.1 = fx_S0 a pp dd) (c : mT h n D1 D2) (hn : n < 440) (k : ∀ h2, mo tM tMF h h2 → mT h2 (n + 1) (du D1 n x) (du D2 n b) → Q none h2) : fx_Mt l M_MO_make (0, 0) [.ref 31, .int (zI x), .int (zI b)] h Q := by
  obtain ⟨c1, c2⟩ := c
  have e : (h.2.1 31 28).toNat = 258 + n := by omega
  refine e_MO_make hS ⟨by omega, by omega, by omega, by omega, k _ (((mo.uA (by omega)).tr (mo.uA (by omega))).tr (mo.uF rfl)) ?_⟩
  rw [e]
  refine ⟨?_, fun j hj => ⟨?_, ?_⟩⟩
  · rw [uF_s]; omega
  · show (fx_uA (fx_uA h 39 (258 + n) x) 40 (258 + n) b).2.2.1 39 (258 + j) = _
    rw [uA_n _ _ (by omega)]
    by_cases hjn : j = n
    · subst hjn; rw [uA_s, du_s]
    · rw [uA_n _ _ (by omega), du_n _ _ hjn]; exact (c2 j (by omega)).1
  · show (fx_uA (fx_uA h 39 (258 + n) x) 40 (258 + n) b).2.2.1 40 (258 + j) = _
    by_cases hjn : j = n
    · subst hjn; rw [uA_s, du_s]
    · rw [uA_n _ _ (by omega), uA_n _ _ (by omega), du_n _ _ hjn]; exact (c2 j (by omega)).2
theorem mW.mo {PA PF : Nat → Prop} {h h2 : fx_H} {s : WS} (c : mW h s) (m : mo PA PF h h2) (hA : ¬ PA 33) (h5 : ¬ PF 5) (h18 : ¬ PF 18) (h19 : ¬ PF 19) : mW h2 s := by
  obtain ⟨c1, c2, c3, c4⟩ := c
  exact ⟨(m.2 5 h5).trans c1, (m.2 18 h18).trans c2, (m.2 19 h19).trans c3, fun i hi => by rw [m.1.2.2.1 33 i (by rintro (z | z); omega; exact hA z)]; exact c4 i hi⟩
theorem m_outTable {N : Nat} {B : Nat → Int} {s : WS} (hS : h.1 = fx_S0 a pp dd) (hN : h.2.1 31 27 = N) (hN1 : 1 ≤ N) (hN4 : N ≤ 400) (hB : ∀ i : Nat, i < N → h.2.2.1 38 i = B i) (hBr : ∀ i : Nat, 0 ≤ B i ∧ B i < 256) (mw : mW h s) (ok : isW s) (cap : tb s + 9 + 11 * (N + 2) + 8 ≤ 16000) (k : ∀ h2, mo tA tF h h2 → mW h2 (tabW B N s) → Q none h2) : fx_Mt l M_MO_outTable (0, 0) [.ref 31] h Q := by
  refine e_MO_outTable hS ?_
  refine m_outBits (h := fx_uF h 31 28 258) hS (s := s) (mw.mo (PA := tM) (PF := tMF) (mo.uF rfl) (by omega) (by omega) (by omega) (by omega)) ok (by omega) (by omega) (by omega) (by omega) fun h5 c5 w5 => ⟨rfl, c5.S, ?_⟩
  have k5 : mo tA tF h h5 := (mo.uF (by omega)).tr c5.t
  have t5 : mT h5 0 (fun _ => 0) (fun _ => 0) := ⟨by rw [c5.2 28 (by omega), uF_s]; rfl, fun k hk => by omega⟩
  have hN' : ∀ h6, mo tA tF h h6 → h6.2.1 31 27 = N := fun h6 c6 => (c6.2 27 (by omega)).trans hN
  have hB' : ∀ h6, mo tA tF h h6 → ∀ i : Nat, i < N → h6.2.2.1 38 i = B i := fun h6 c6 i hi => by rw [c6.1.2.2.1 38 i (by omega)]; exact hB i hi
  have inner : ∀ (m i n2 : Nat) (D1 D2 : Nat → Int) (e since : Int) (s6 : WS) (h6 : fx_H), i + m = N → n2 < i → 0 ≤ since → since < i → 0 ≤ e → e < 700 → dOK n2 D1 D2 → isW s6 → tb s6 + 11 * (m + 2) + 8 ≤ 16000 → mo tA tF h h6 → mW h6 s6 → mT h6 n2 D1 D2 →
      (∀ h2, mo tA tF h h2 → mW h2 (wrest (tabE B m i n2 D1 D2 e since s6)) → Q none h2) →
      fx_V l M_MO_outTable (0, 0) Q 0 0 38 [some (.ref 31), some (.int (zI since)), some (.int (zI (i : Nat))), some (.int (zI e))] [] h6 := by
    intro m
    induction m with
    | zero =>
      intro i n2 D1 D2 e since s6 h6 hi hn2 hs0 hs1 he he2 d ok6 cap6 k6 w6 t6 kk
      have hS6 := k6.S.trans hS
      have d1 := dg_R (since + 1)
      have d2 := dg_R (since + 1 + 1)
      have q6 := hN' h6 k6
      refine w_MO_outTable_38 hS6 ⟨by omega, by omega, fun _ => ?_, fun z => by omega⟩
      refine m_digitsOf hS6 (by omega) ⟨_, rfl, rfl, ?_⟩
      refine m_outBits hS6 w6 ok6 (by omega) (by omega) (by omega) (by omega) fun h7 c7 w7 => ⟨rfl, c7.S, ?_⟩
      have k7 := k6.tr c7.t
      have q7 := hN' h7 k7
      refine ⟨by omega, fun _ => ?_, fun z => by omega⟩
      refine w_MO_outTable_20 (k7.S.trans hS) ⟨by omega, by omega, fun _ => ?_, fun z => by omega⟩
      refine m_digitsOf (k7.S.trans hS) (by omega) ⟨_, rfl, rfl, ?_⟩
      refine m_outBits (k7.S.trans hS) w7 (isW_bits _ ok6) (by omega) (by omega) (by omega) (by rw [tb_bits _ ok6]; omega) fun h8 c8 w8 => ⟨rfl, c8.S, ?_⟩
      have k8 := k7.tr c8.t
      refine m_outRest (k8.S.trans hS) w8 (isW_bits _ (isW_bits _ ok6)) (by rw [tb_bits _ (isW_bits _ ok6), tb_bits _ ok6]; omega) fun h9 c9 w9 => ⟨rfl, c9.S, kk h9 (k8.tr c9.t) w9⟩
    | succ m ih =>
      intro i n2 D1 D2 e since s6 h6 hi hn2 hs0 hs1 he he2 d ok6 cap6 k6 w6 t6 kk
      have hS6 := k6.S.trans hS
      have d1 := dg_R (since + 1)
      have q6 := hN' h6 k6
      have hb := hBr i
      have e9 : ((i : Nat) : Int) + 1 = ((i + 1 : Nat) : Int) := by omega
      have hfr := fnd_R D1 D2 e (B i) n2
      refine w_MO_outTable_38 hS6 ⟨by omega, by omega, fun z => by omega, fun _ => ⟨by omega, by omega, ?_⟩⟩
      rw [Int.toNat_natCast, hB' h6 k6 i (by omega)]
      have second : ¬ fnd D1 D2 e (B i) n2 = 0 → fx_V l M_MO_outTable (0, 0) Q 0 0 38 [some (.ref 31), some (.int (zI since)), some (.int (zI (((i : Nat) : Int) + 1))), some (.int (zI (if fnd D1 D2 e (B i) n2 = 0 then -1 else fnd D1 D2 e (B i) n2)))] [] h6 := by
        intro z
        rw [tabE, if_neg z] at kk
        rw [e9, if_neg z]
        exact ih (i + 1) n2 D1 D2 _ since s6 h6 (by omega) (by omega) hs0 (by omega) (by omega) (by omega) d ok6 (by omega) k6 w6 t6 kk
      refine m_longer hS6 t6 d (by omega) (by omega) (by omega) ⟨_, rfl, rfl, by split <;> omega, fun z => ?_, fun z => ⟨by omega, by omega, ?_⟩⟩
      · have z0 : fnd D1 D2 e (B i) n2 = 0 := by
          by_cases z0 : fnd D1 D2 e (B i) n2 = 0
          · exact z0
          · rw [if_neg z0] at z; omega
        rw [tabE, if_pos z0] at kk
        refine m_digitsOf hS6 (by omega) ⟨_, rfl, rfl, ?_⟩
        refine m_outBits hS6 w6 ok6 (by omega) (by omega) (by omega) (by omega) fun h7 c7 w7 => ⟨rfl, c7.S, ?_⟩
        have k7 := k6.tr c7.t
        have q7 := hN' h7 k7
        refine ⟨by omega, fun z => by omega, fun _ => ⟨by omega, by omega, ?_⟩⟩
        rw [hB' h7 k7 i (by omega)]
        refine m_make (k7.S.trans hS) (t6.o c7) (by omega) fun h8 c8 t8 => ⟨rfl, c8.S, ?_⟩
        have k8 : mo tA tF h h8 := k7.tr (c8.mono (fun j z => by omega) (fun j z => by omega))
        have q8 := hN' h8 k8
        refine w_MO_outTable_20 (k8.S.trans hS) ⟨by omega, by omega, fun z => by omega, fun _ => ⟨by omega, by omega, ?_⟩⟩
        rw [Int.toNat_natCast, hB' h8 k8 i (by omega), e9]
        exact ih (i + 1) (n2 + 1) _ _ _ (since + 1) _ h8 (by omega) (by omega) (by omega) (by omega) hb.1 (by omega) (d.du he (by omega) hb.1 hb.2) (isW_bits _ ok6) (by rw [tb_bits _ ok6]; omega) k8 (w7.mo c8 (by omega) (by omega) (by omega) (by omega)) t8 kk
      · rw [hB' h6 k6 i (by omega)]
        have z0 : ¬ fnd D1 D2 e (B i) n2 = 0 := fun z0 => z (by rw [if_pos z0]; omega)
        exact m_longer hS6 t6 d (by omega) (by omega) (by omega) ⟨_, rfl, rfl, second z0⟩
  have q5 := hN' h5 k5
  refine w_MO_outTable_20 (k5.S.trans hS) ⟨by omega, by omega, fun z => by omega, fun _ => ⟨by omega, by omega, ?_⟩⟩
  have b0 := hB' h5 k5 0 (by omega)
  rw [show (0 : Int).toNat = 0 from rfl, b0]
  have hb0 := hBr 0
  exact inner (N - 1) 1 0 _ _ _ 0 (wbits s 256 9) h5 (by omega) (by omega) (by omega) (by omega) hb0.1 (by omega) (fun k hk => by omega) (isW_bits _ ok) (by rw [tb_bits _ ok]; omega) k5 w5 t5 fun h2 c2 w2 => k h2 c2 w2
end TB
