/-! the reference takes the tags -/
def tkOK (L : List Int) (b : Int) (k : Nat) (at_ : Int) : Prop := (ty L b at_ = 3 ∨ ty L b at_ = 4) ∧ (k = 5 ∨ k = 7 ∨ ct L b at_ = 1) ∧ vp L b at_ + ct L b at_ * ea L b at_ ≤ L.length
def tk (L : List Int) (b : Int) : Nat → Prop
  | 0 => True
  | j + 1 => tk L b j ∧ ∀ k : Nat, k < 9 → fx_tNU.getD k 0 = tn L b j → tkOK L b k (tp L b j)
abbrev kA : Nat → Prop := fun j => 43 ≤ j ∧ j ≤ 46
theorem mo.uL {PA PF : Nat → Prop} {h : fx_H} {q k : Nat} {x : Int} (hq : PA q) : mo PA PF h (fx_uL h q k x) := ⟨sm.uL (Or.inr hq), fun _ _ => rfl⟩
theorem inc_tf {L : List Int} {b : Int} (k : Nat) : ∀ j : Nat, inc L b j → ¬ tf L b j k = -1 → fx_tNU.getD k 0 ≤ lnb L b j
  | 0, _, h => absurd rfl h
  | j + 1, hi, h => by
    rw [tf] at h
    show _ ≤ tn L b j
    by_cases hz : fx_tNU.getD k 0 = tn L b j
    · omega
    · rw [if_neg hz] at h
      have := inc_tf k j hi.1 h
      have := hi.2
      omega
theorem tk_iff {L : List Int} {b : Int} (hB : isB L) : ∀ j : Nat, inc L b j → (tk L b j ↔ ∀ k : Nat, k < 9 → ¬ tf L b j k = -1 → tkOK L b k (tf L b j k))
  | 0, _ => ⟨fun _ k _ h => absurd rfl h, fun _ => trivial⟩
  | j + 1, hi => by
    have ih := tk_iff hB j hi.1
    have hp := p0_R (b := b) hB
    constructor
    · intro ⟨h1, h2⟩ k hk hne
      rw [tf] at hne ⊢
      by_cases hz : fx_tNU.getD k 0 = tn L b j
      · rw [if_pos hz]; exact h2 k hk hz
      · rw [if_neg hz] at hne ⊢; exact ih.mp h1 k hk hne
    · intro h
      refine ⟨ih.mpr fun k hk hne => ?_, fun k hk hz => ?_⟩
      · have h1 := inc_tf k j hi.1 hne
        have h2 := hi.2
        have h3 := h k hk
        rw [tf, if_neg (by omega)] at h3
        exact h3 hne
      · have h3 := h k hk
        rw [tf, if_pos hz] at h3
        exact h3 (by unfold tp; omega)
section TM
variable {l : Launch} {Q : Option Value → fx_H → Prop} {h : fx_H} {a : Nat → Nat} {pp dd : Nat} {L : List Int} {b : Int}
theorem m_known {x : Int} (hS : h.1 = fx_S0 a pp dd) (hx : zR x) (kk : ∀ k : Nat, k < 9 → fx_tNU.getD k 0 = x → Q (some (.int (zI (k : Nat)))) h) (kn : (∀ k : Nat, k < 9 → ¬ fx_tNU.getD k 0 = x) → Q (some (.int (zI (-1)))) h) : fx_Mt l M_MO_known (0, 0) [.int (zI x)] h Q := by
  refine e_MO_known hS ⟨hx, fun z => kk 0 (by omega) z.symm, fun z => kk 1 (by omega) z.symm, fun z => kk 2 (by omega) z.symm, fun z => kk 3 (by omega) z.symm, fun z => kk 4 (by omega) z.symm, fun z => kk 5 (by omega) z.symm, fun z => kk 6 (by omega) z.symm, fun z => kk 7 (by omega) z.symm, fun z => kk 8 (by omega) z.symm, fun z0 z1 z2 z3 z4 z5 z6 z7 z8 => kn fun k hk e => ?_⟩
  have : k = 0 ∨ k = 1 ∨ k = 2 ∨ k = 3 ∨ k = 4 ∨ k = 5 ∨ k = 6 ∨ k = 7 ∨ k = 8 := by omega
  rcases this with rfl | rfl | rfl | rfl | rfl | rfl | rfl | rfl | rfl
  · exact z0 e.symm
  · exact z1 e.symm
  · exact z2 e.symm
  · exact z3 e.symm
  · exact z4 e.symm
  · exact z5 e.symm
  · exact z6 e.symm
  · exact z7 e.symm
  · exact z8 e.symm
theorem mL.mo {PA PF : Nat → Prop} {h h2 : fx_H} (c : mL h L b) (m : mo PA PF h h2) (hA : ¬ PA 33) (h5 : ¬ PF 5) (h18 : ¬ PF 18) (h19 : ¬ PF 19) (h11 : ¬ PF 11) : mL h2 L b := ⟨c.1.mo m hA h5 h18 h19, (m.2 11 h11).trans c.2.1, c.2.2⟩
theorem mLk {h h2 : fx_H} (c : mL h L b) (m : mo kA bF h h2) : mL h2 L b := c.mo m (by omega) (fun z => z) (fun z => z) (fun z => z) (fun z => z)
theorem m_num2 {p : Int} {n : Nat} (hS : h.1 = fx_S0 a pp dd) (c : mL h L b) (hp : 0 ≤ p) (hn1 : 1 ≤ n) (hn : n ≤ 4) (hin : p + n ≤ L.length) (k : Q (some (.long (zL (num L b p n)))) h) : fx_Mt l M_MO_number (0, 0) [.ref 31, .long (zL p), .int (zI (n : Nat))] h Q := by
  have := c.2.2.2.1
  refine m_number hS c hp (by omega) hn1 hn ?_
  rw [if_pos hin]; exact k
def mTk (h : fx_H) (L : List Int) (b : Int) (k : Nat) (q : Int) : Prop := h.2.2.1 43 k = 1 ∧ h.2.2.1 44 k = ty L b q ∧ h.2.2.2 45 k = ct L b q ∧ h.2.2.2 46 k = vp L b q
/-- the other tags' rows -/
def mkeep (k : Nat) (h h2 : fx_H) : Prop := ∀ j : Nat, j ≠ k → h2.2.2.1 43 j = h.2.2.1 43 j ∧ h2.2.2.1 44 j = h.2.2.1 44 j ∧ h2.2.2.2 45 j = h.2.2.2 45 j ∧ h2.2.2.2 46 j = h.2.2.2 46 j
theorem m_takeTag {q : Int} (k : Nat) (hk : k < 9) (hS : h.1 = fx_S0 a pp dd) (c : mL h L b) (hq : 0 ≤ q) (hq2 : q + 12 ≤ L.length) (k1 : tkOK L b k q → ∀ h2, mo kA bF h h2 → mTk h2 L b k q → mkeep k h h2 → Q (some (.int (zI 1))) h2) (k0 : ¬ tkOK L b k q → ∀ h2, mo kA bF h h2 → Q (some (.int (zI 0))) h2) : fx_Mt l M_MO_takeTag (0, 0) [.ref 31, .int (zI (k : Nat)), .long (zL q)] h Q := by
  have hB := c.2.2.2.2
  have hlen := c.2.2.2.1
  have tyr : 0 ≤ ty L b q ∧ ty L b q < 65536 := num_2 hB _
  have ctr : 0 ≤ ct L b q ∧ ct L b q < 4294967296 := num_4 hB _
  have n8 := num_4 (b := b) hB (q + 8)
  have er := ea_R L b q
  have m1 : mo kA bF h (fx_uA h 43 k 1) := mo.uA (by omega)
  refine e_MO_takeTag hS ⟨by omega, by omega, ?_⟩
  rw [Int.toNat_natCast]
  refine m_num2 (n := 2) (h := fx_uA h 43 k 1) hS (mLk c m1) (by omega) (by omega) (by omega) (by omega) ⟨ty L b q, rfl, rfl, by omega, by omega, ?_⟩
  have m2 : mo kA bF h (fx_uA (fx_uA h 43 k 1) 44 k (ty L b q)) := m1.tr (mo.uA (by omega))
  refine m_num2 (n := 4) (h := fx_uA (fx_uA h 43 k 1) 44 k (ty L b q)) hS (mLk c m2) (by omega) (by omega) (by omega) (by omega) ⟨ct L b q, rfl, rfl, by omega, by omega, by omega, by omega, ?_⟩
  rw [uA_s]
  have m3 : mo kA bF h (fx_uL (fx_uA (fx_uA h 43 k 1) 44 k (ty L b q)) 45 k (ct L b q)) := m2.tr (mo.uL (by omega))
  generalize hh3 : fx_uL (fx_uA (fx_uA h 43 k 1) 44 k (ty L b q)) 45 k (ct L b q) = h3 at *
  have a43 : h3.2.2.1 43 k = 1 := by rw [← hh3]; show (fx_uA (fx_uA h 43 k 1) 44 k (ty L b q)).2.2.1 43 k = 1; rw [uA_n _ _ (by omega), uA_s]
  have a44 : h3.2.2.1 44 k = ty L b q := by rw [← hh3]; show (fx_uA (fx_uA h 43 k 1) 44 k (ty L b q)).2.2.1 44 k = _; rw [uA_s]
  have a45 : h3.2.2.2 45 k = ct L b q := by rw [← hh3, uL_s]
  have kp3 : ∀ j : Nat, j ≠ k → h3.2.2.1 43 j = h.2.2.1 43 j ∧ h3.2.2.1 44 j = h.2.2.1 44 j ∧ h3.2.2.2 45 j = h.2.2.2 45 j ∧ h3.2.2.2 46 j = h.2.2.2 46 j := by
    intro j hj
    rw [← hh3]
    refine ⟨?_, ?_, ?_, ?_⟩
    · show (fx_uA (fx_uA h 43 k 1) 44 k (ty L b q)).2.2.1 43 j = _; rw [uA_n _ _ (by omega), uA_n _ _ (by omega)]
    · show (fx_uA (fx_uA h 43 k 1) 44 k (ty L b q)).2.2.1 44 j = _; rw [uA_n _ _ (by omega), uA_n _ _ (by omega)]
    · rw [uL_n _ _ (by omega)]; rfl
    · rw [uL_n _ _ (by omega)]; rfl
  have hS3 := m3.S.trans hS
  have c3 : mL h3 L b := mLk c m3
  have hce : 0 ≤ ct L b q * ea L b q ∧ ct L b q * ea L b q < 17179869184 := by rcases er with e | e <;> rw [e] <;> omega
  have hvp0 : 0 ≤ vp L b q ∧ vp L b q < 4294967296 := by unfold vp; split <;> omega
  -- behind the place
  have behind : fx_V l M_MO_takeTag (0, 0) Q 0 0 97 [some (.ref 31), some (.int (zI (k : Nat))), none, none, some (.int (zI (ea L b q))), none] [.long (zL (vp L b q)), .int (zI (k : Nat)), .ref 46] h3 := by
    have m4 : mo kA bF h (fx_uL h3 46 k (vp L b q)) := m3.tr (mo.uL (by omega))
    have l4 : (fx_uL h3 46 k (vp L b q)).2.1 31 5 = L.length := (mLk c m4).1.1
    have t4 : mTk (fx_uL h3 46 k (vp L b q)) L b k q := ⟨a43, a44, by rw [uL_n _ _ (by omega)]; exact a45, uL_s _ _ _ _⟩
    have kp4 : mkeep k h (fx_uL h3 46 k (vp L b q)) := fun j hj => ⟨(kp3 j hj).1, (kp3 j hj).2.1, by rw [uL_n _ _ (by omega)]; exact (kp3 j hj).2.2.1, by rw [uL_n _ _ (by omega)]; exact (kp3 j hj).2.2.2⟩
    have last : ∀ y : Int, (y = 0 ∨ y = 1) → (y = 1 ↔ (k = 5 ∨ k = 7 ∨ ct L b q = 1)) → fx_V l M_MO_takeTag (0, 0) Q 0 0 125 [some (.ref 31), some (.int (zI (k : Nat))), none, none, some (.int (zI (ea L b q))), none] [.int (zI y)] (fx_uL h3 46 k (vp L b q)) := by
      intro y hy hyi
      refine w_MO_takeTag_125 (h := fx_uL h3 46 k (vp L b q)) hS3 ?_
      rw [Int.toNat_natCast, t4.2.1, t4.2.2.1, t4.2.2.2, l4]
      have fin : (ty L b q = 3 ∨ ty L b q = 4) → zR y ∧ ((y = 0 → Q (some (.int (zI 0))) (fx_uL h3 46 k (vp L b q))) ∧ (¬ (y = 0) → 0 ≤ ((k : Nat) : Int) ∧ ((k : Nat) : Int) < 9 ∧ 0 ≤ ((k : Nat) : Int) ∧ ((k : Nat) : Int) < 9 ∧ zR (ea L b q) ∧ zR (L.length : Int) ∧ zRL (vp L b q + ct L b q * ea L b q) ∧ zRL (L.length : Int) ∧ ((0 < (zC (vp L b q + ct L b q * ea L b q) L.length) → Q (some (.int (zI 0))) (fx_uL h3 46 k (vp L b q))) ∧ (¬ (0 < (zC (vp L b q + ct L b q * ea L b q) L.length)) → Q (some (.int (zI 1))) (fx_uL h3 46 k (vp L b q)))))) := by
        intro hty
        refine ⟨by omega, fun z => k0 (fun w => by have := hyi.mpr w.2.1; omega) _ m4, fun z => ⟨by omega, by omega, by omega, by omega, by omega, by omega, by omega, by omega, fun z2 => k0 (fun w => by have := zC_gt.mp z2; have := w.2.2; omega) _ m4, fun z2 => k1 ⟨hty, hyi.mp (by omega), ?_⟩ _ m4 t4 kp4⟩⟩
        by_cases z9 : vp L b q + ct L b q * ea L b q ≤ L.length
        · exact z9
        · exact absurd (zC_gt.mpr (by omega)) z2
      refine ⟨by omega, by omega, by omega, fun z => fin (Or.inl z), fun z => ⟨by omega, by omega, fun z2 => k0 (fun w => w.1.elim z z2) _ m4, fun z2 => fin (Or.inr z2)⟩⟩
    refine w_MO_takeTag_97 hS3 ?_
    rw [Int.toNat_natCast, a45]
    refine ⟨by omega, by omega, by omega, fun z => last 1 (Or.inr rfl) ⟨fun _ => Or.inl (by omega), fun _ => rfl⟩, fun z => ⟨fun z2 => last 1 (Or.inr rfl) ⟨fun _ => Or.inr (Or.inl (by omega)), fun _ => rfl⟩, fun z2 => ⟨by omega, by omega, by omega, fun z3 => last 0 (Or.inl rfl) ⟨fun z4 => by omega, fun z4 => ?_⟩, fun z3 => last 1 (Or.inr rfl) ⟨fun _ => Or.inr (Or.inr (zC_0.mp z3)), fun _ => rfl⟩⟩⟩⟩
    rcases z4 with z4 | z4 | z4
    · omega
    · omega
    · exact absurd (zC_0.mpr z4) z3
  have h55 : fx_V l M_MO_takeTag (0, 0) Q 0 0 55 [some (.ref 31), some (.int (zI (k : Nat))), some (.long (zL q)), none, none, none] [.int (zI (ea L b q))] h3 := by
    refine w_MO_takeTag_55 hS3 ?_
    rw [Int.toNat_natCast, a45]
    refine ⟨by omega, by omega, by omega, by omega, fun z => ?_, fun z => ?_⟩
    · have z1 := zC_le.mp z
      have e : q + 8 = vp L b q := by unfold vp; rw [if_pos z1]
      rw [e]; exact behind
    · have z1 : ¬ ct L b q * ea L b q ≤ 4 := fun w => z (zC_le.mpr w)
      refine m_num2 (n := 4) hS3 c3 (by omega) (by omega) (by omega) (by omega) ⟨_, rfl, rfl, ?_⟩
      have e : num L b (q + 8) 4 = vp L b q := by unfold vp; rw [if_neg z1]
      rw [e]; exact behind
  unfold ea at h55
  refine ⟨by omega, fun z => ?_, fun z => ?_⟩
  · rw [if_neg z] at h55; exact h55
  · rw [if_pos z] at h55; exact h55
/-- the rows that are taken -/
def mT9 (h : fx_H) (L : List Int) (b : Int) (j : Nat) : Prop := ∀ k : Nat, k < 9 → (tf L b j k = -1 → h.2.2.1 43 k = 0) ∧ (¬ tf L b j k = -1 → mTk h L b k (tf L b j k))
theorem m_takeTags (hS : h.1 = fx_S0 a pp dd) (c : mL h L b) (h8 : 8 ≤ L.length) (k1 : (stOK L b ∧ inc L b (tmany L b)) ∧ tk L b (tmany L b) → ∀ h2, mo kA bF h h2 → mT9 h2 L b (tmany L b) → Q (some (.int (zI 1))) h2) (k0 : ¬ ((stOK L b ∧ inc L b (tmany L b)) ∧ tk L b (tmany L b)) → ∀ h2, mo kA bF h h2 → Q (some (.int (zI 0))) h2) : fx_Mt l M_MO_takeTags (0, 0) [.ref 31] h Q := by
  have hB := c.2.2.2.2
  have hlen := c.2.2.2.1
  have hp0 := p0_R (b := b) hB
  have hmn := num_2 (b := b) hB (p0 L b)
  have htm : (tmany L b : Int) = num L b (p0 L b) 2 := by unfold tmany; omega
  refine e_MO_takeTags hS ?_
  have begin_ : ∀ h1 : fx_H, mo kA bF h h1 → (∀ k : Nat, k < 9 → h1.2.2.1 43 k = 0) → fx_Mt l M_MO_number (0, 0) [.ref 31, .long (zL 4), .int (zI 4)] h1 (fun v h3 => ∃ r5 : Int, v = some (.long (zL r5)) ∧ h3.1 = h1.1 ∧ zR (h3.2.1 31 5) ∧ zRL (r5 + 2) ∧ zRL (h3.2.1 31 5) ∧ (((zC (r5 + 2) (h3.2.1 31 5)) ≤ 0 → fx_Mt l M_MO_number (0, 0) [.ref 31, .long (zL r5), .int (zI 2)] h3 (fun v h10 => ∃ r12 : Int, v = some (.long (zL r12)) ∧ h10.1 = h3.1 ∧ zR r12 ∧ zR (h10.2.1 31 5) ∧ zRL ((r5 + 6) + (12 * r12)) ∧ zRL (h10.2.1 31 5) ∧ ((0 < (zC ((r5 + 6) + (12 * r12)) (h10.2.1 31 5)) → Q (some (.int (zI 0))) h10) ∧ (¬ (0 < (zC ((r5 + 6) + (12 * r12)) (h10.2.1 31 5))) → fx_Mt l M_MO_number (0, 0) [.ref 31, .long (zL ((r5 + 2) + (12 * r12))), .int (zI 4)] h10 (fun v h18 => ∃ r20 : Int, v = some (.long (zL r20)) ∧ h18.1 = h10.1 ∧ zRL r20 ∧ (((zC r20 0) = 0 → (fx_V l M_MO_takeTags (0, 0) Q 0 0 108 [some (.ref 31), some (.long (zL r5)), none, some (.int (zI r12)), some (.int (zI (-1))), some (.int (zI 1)), some (.int (zI 0)), none, none, none, none] [] h18)) ∧ (¬ ((zC r20 0) = 0) → Q (some (.int (zI 0))) h18))))))) ∧ (¬ ((zC (r5 + 2) (h3.2.1 31 5)) ≤ 0) → Q (some (.int (zI 0))) h3))) := by
    intro h1 m1 z43
    have hS1 := m1.S.trans hS
    have c1 : mL h1 L b := mLk c m1
    have l1 : h1.2.1 31 5 = L.length := c1.1.1
    refine m_num2 (n := 4) hS1 c1 (by omega) (by omega) (by omega) (by omega) ⟨p0 L b, rfl, rfl, ?_⟩
    rw [l1]
    refine ⟨by omega, by omega, by omega, fun z => ?_, fun z => k0 (fun q => z (zC_le.mpr q.1.1.1)) h1 m1⟩
    have z1 := zC_le.mp z
    refine m_num2 (n := 2) hS1 c1 hp0.1 (by omega) (by omega) (by omega) ⟨(tmany L b : Int), by rw [htm], rfl, ?_⟩
    rw [l1]
    refine ⟨by omega, by omega, by omega, by omega, fun z2 => k0 (fun q => by have := q.1.1.2.1; have := zC_gt.mp z2; omega) h1 m1, fun z2 => ?_⟩
    have z3 : p0 L b + 6 + 12 * (tmany L b : Int) ≤ L.length := by
      by_cases z9 : p0 L b + 6 + 12 * (tmany L b : Int) ≤ L.length
      · exact z9
      · exact absurd (zC_gt.mpr (by omega)) z2
    have n4 := num_4 (b := b) hB (p0 L b + 2 + 12 * tmany L b)
    refine m_num2 (n := 4) hS1 c1 (by omega) (by omega) (by omega) (by omega) ⟨_, rfl, rfl, by omega, fun z4 => ?_, fun z4 => k0 (fun q => z4 (zC_0.mpr q.1.1.2.2)) h1 m1⟩
    have hst : stOK L b := ⟨z1, by omega, zC_0.mp z4⟩
    have loop : ∀ (m i : Nat) (h3 : fx_H) (y : Int), i + m = tmany L b → mo kA bF h h3 → ((y = 1 ∧ inc L b i ∧ tk L b i ∧ mT9 h3 L b i) ∨ (y = 0 ∧ ¬ (inc L b i ∧ tk L b i))) → fx_V l M_MO_takeTags (0, 0) Q 0 0 108 [some (.ref 31), some (.long (zL (p0 L b))), none, some (.int (zI (tmany L b : Nat))), some (.int (zI (lnb L b i))), some (.int (zI y)), some (.int (zI (i : Nat))), none, none, none, none] [] h3 := by
      intro m
      induction m with
      | zero =>
        intro i h3 y hi m3 inv
        have him : i = tmany L b := by omega
        rw [him] at inv
        refine w_MO_takeTags_108 (m3.S.trans hS) ⟨by omega, by omega, fun _ => ⟨by omega, ?_⟩, fun z => by omega⟩
        rcases inv with ⟨rfl, i1, i2, i3⟩ | ⟨rfl, i1⟩
        · exact k1 ⟨⟨hst, i1⟩, i2⟩ h3 m3 i3
        · exact k0 (fun q => i1 ⟨q.1.2, q.2⟩) h3 m3
      | succ m ih =>
        intro i h3 y hi m3 inv
        have hS3 := m3.S.trans hS
        have c3 : mL h3 L b := mLk c m3
        have tnr : 0 ≤ tn L b i ∧ tn L b i < 65536 := num_2 hB _
        have lnr : zR (lnb L b i) := by
          cases i with
          | zero => show zR (-1); omega
          | succ i => have : 0 ≤ tn L b i ∧ tn L b i < 65536 := num_2 hB _; show zR (tn L b i); omega
        have et : p0 L b + 2 + 12 * ((i : Nat) : Int) = tp L b i := by unfold tp; omega
        have htp : 0 ≤ tp L b i ∧ tp L b i + 16 ≤ L.length := by unfold tp; omega
        have e : ((i : Nat) : Int) + 1 = ((i + 1 : Nat) : Int) := by omega
        refine w_MO_takeTags_108 hS3 ⟨by omega, by omega, fun z => by omega, fun _ => ?_⟩
        rw [et, e]
        refine m_num2 (n := 2) hS3 c3 htp.1 (by omega) (by omega) (by omega) ⟨tn L b i, rfl, rfl, ?_⟩
        have fail : ∀ h4, mo kA bF h h4 → ¬ (inc L b (i + 1) ∧ tk L b (i + 1)) → fx_V l M_MO_takeTags (0, 0) Q 0 0 108 [some (.ref 31), some (.long (zL (p0 L b))), none, some (.int (zI (tmany L b : Nat))), some (.int (zI (tn L b i))), some (.int (zI 0)), some (.int (zI ((i + 1 : Nat) : Int))), none, none, none, none] [] h4 := fun h4 m4 q => ih (i + 1) h4 0 (by omega) m4 (Or.inr ⟨rfl, q⟩)
        have good : y = 1 → zR (tn L b i) ∧ zR (lnb L b i) := fun _ => ⟨by omega, lnr⟩
        refine m_known hS3 (by omega) (fun k hk ek => ⟨((k : Nat) : Int), rfl, rfl, ?_⟩) (fun nk => ⟨-1, rfl, rfl, ?_⟩)
        · refine ⟨by omega, fun z => fail h3 m3 (fun q => ?_), fun z => ⟨by omega, lnr, fun z2 => fail h3 m3 (fun q => by have := q.1.2; omega), fun z2 => ⟨by omega, fun z5 => by omega, fun _ => ?_⟩⟩⟩
          · rcases inv with ⟨i0, -⟩ | ⟨-, i1⟩
            · omega
            · exact i1 ⟨q.1.1, q.2.1⟩
          · rcases inv with ⟨i0, i1, i2, i3⟩ | ⟨i0, -⟩
            · refine m_takeTag k hk hS3 c3 htp.1 (by omega) (fun q4 h4 m4 t4 kp4 => ⟨1, rfl, m4.S, by omega, fun z => by omega, fun _ => ?_⟩) (fun q4 h4 m4 => ⟨0, rfl, m4.S, by omega, fun _ => fail h4 (m3.tr m4) (fun q => q4 (q.2.2 k hk ek)), fun z => absurd rfl z⟩)
              refine ih (i + 1) h4 1 (by omega) (m3.tr m4) (Or.inl ⟨rfl, ⟨i1, by omega⟩, ⟨i2, fun k2 hk2 ek2 => ?_⟩, fun k2 hk2 => ?_⟩)
              · have := NU_inj k2 k hk2 hk (ek2.trans ek.symm)
                subst this; exact q4
              · rw [tf]
                by_cases hkk : k2 = k
                · subst hkk
                  rw [if_pos ek]
                  exact ⟨fun z9 => by omega, fun _ => t4⟩
                · have hne : ¬ fx_tNU.getD k2 0 = tn L b i := fun z9 => hkk (NU_inj k2 k hk2 hk (z9.trans ek.symm))
                  rw [if_neg hne]
                  have kp := kp4 k2 hkk
                  have i3k := i3 k2 hk2
                  exact ⟨fun z9 => kp.1.trans (i3k.1 z9), fun z9 => by have t9 := i3k.2 z9; exact ⟨kp.1.trans t9.1, kp.2.1.trans t9.2.1, kp.2.2.1.trans t9.2.2.1, kp.2.2.2.trans t9.2.2.2⟩⟩
            · exact absurd i0 z
        · refine ⟨by omega, fun z => fail h3 m3 (fun q => ?_), fun z => ⟨by omega, lnr, fun z2 => fail h3 m3 (fun q => by have := q.1.2; omega), fun z2 => ⟨by omega, fun _ => ?_, fun z5 => by omega⟩⟩⟩
          · rcases inv with ⟨i0, -⟩ | ⟨-, i1⟩
            · omega
            · exact i1 ⟨q.1.1, q.2.1⟩
          · rcases inv with ⟨i0, i1, i2, i3⟩ | ⟨i0, -⟩
            · refine ih (i + 1) h3 1 (by omega) m3 (Or.inl ⟨rfl, ⟨i1, by omega⟩, ⟨i2, fun k2 hk2 ek2 => absurd ek2 (nk k2 hk2)⟩, fun k2 hk2 => ?_⟩)
              rw [tf, if_neg (nk k2 hk2)]
              exact i3 k2 hk2
            · exact absurd i0 z
    exact loop _ 0 h1 1 (Nat.zero_add _) m1 (Or.inl ⟨rfl, trivial, trivial, fun k hk => ⟨fun _ => z43 k hk, fun z => absurd rfl z⟩⟩)
  have clr : ∀ (m i : Nat) (h1 : fx_H), i + m = 9 → mo kA bF h h1 → (∀ k : Nat, k < i → h1.2.2.1 43 k = 0) → fx_V l M_MO_takeTags (0, 0) Q 0 0 2 [some (.ref 31), some (.int (zI (i : Nat))), none, none, none, none, none, none, none, none, none] [] h1 := by
    intro m
    induction m with
    | zero =>
      intro i h1 hi m1 d1
      exact w_MO_takeTags_2 (m1.S.trans hS) ⟨by omega, fun _ => begin_ h1 m1 (fun k hk => d1 k (by omega)), fun z => by omega⟩
    | succ m ih =>
      intro i h1 hi m1 d1
      have e : ((i : Nat) : Int) + 1 = ((i + 1 : Nat) : Int) := by omega
      refine w_MO_takeTags_2 (m1.S.trans hS) ⟨by omega, fun z => by omega, fun _ => ⟨by omega, by omega, ?_⟩⟩
      rw [e, Int.toNat_natCast]
      refine ih (i + 1) _ (by omega) (m1.tr (mo.uA (by omega))) fun k hk => ?_
      by_cases hki : k = i
      · subst hki; exact uA_s _ _ _ _
      · rw [uA_n _ _ (by omega)]; exact d1 k (by omega)
  exact clr 9 0 h rfl mo.rf fun k hk => by omega
end TM
