/-! what the tags say: the class -/
theorem zC_le {a b : Int} : zC a b ≤ 0 ↔ a ≤ b := by unfold zC; split; constructor <;> intro <;> omega; split <;> constructor <;> intro <;> omega
theorem zC_lt {a b : Int} : zC a b < 0 ↔ a < b := by unfold zC; split; constructor <;> intro <;> omega; split <;> constructor <;> intro <;> omega
theorem zC_gt {a b : Int} : 0 < zC a b ↔ b < a := by unfold zC; split; constructor <;> intro <;> omega; split <;> constructor <;> intro <;> omega
def p0 (L : List Int) (b : Int) : Int := num L b 4 4
def tp (L : List Int) (b : Int) (j : Nat) : Int := p0 L b + 2 + 12 * j
def tn (L : List Int) (b : Int) (j : Nat) : Int := num L b (tp L b j) 2
def tf (L : List Int) (b : Int) : Nat → Nat → Int
  | 0, _ => -1
  | j + 1, k => if fx_tNU.getD k 0 = tn L b j then tp L b j else tf L b j k
def lnb (L : List Int) (b : Int) : Nat → Int
  | 0 => -1
  | j + 1 => tn L b j
def inc (L : List Int) (b : Int) : Nat → Prop
  | 0 => True
  | j + 1 => inc L b j ∧ lnb L b j < tn L b j
def tmany (L : List Int) (b : Int) : Nat := (num L b (p0 L b) 2).toNat
def stOK (L : List Int) (b : Int) : Prop := p0 L b + 2 ≤ L.length ∧ p0 L b + 2 + 12 * tmany L b + 4 ≤ L.length ∧ num L b (p0 L b + 2 + 12 * tmany L b) 4 = 0
/-- where the known tags lie -/
def tT (L : List Int) (b : Int) (k : Nat) : Int := tf L b (tmany L b) k
def ty (L : List Int) (b : Int) (at_ : Int) : Int := num L b (at_ + 2) 2
def ct (L : List Int) (b : Int) (at_ : Int) : Int := num L b (at_ + 4) 4
def ea (L : List Int) (b : Int) (at_ : Int) : Int := if ty L b at_ = 3 then 2 else 4
abbrev hv (L : List Int) (b : Int) (at_ m : Int) : Prop := ¬ at_ = -1 ∧ (ty L b at_ = 3 ∨ ty L b at_ = 4) ∧ ct L b at_ = m ∧ (m * ea L b at_ ≤ 4 ∨ num L b (at_ + 8) 4 + m * ea L b at_ ≤ L.length)
def vp (L : List Int) (b : Int) (at_ : Int) : Int := if ct L b at_ * ea L b at_ ≤ 4 then at_ + 8 else num L b (at_ + 8) 4
def tval (L : List Int) (b : Int) (at_ i : Int) : Int := num L b (vp L b at_ + i * ea L b at_) (ea L b at_).toNat
def ov (L : List Int) (b : Int) (k : Nat) : Int := if hv L b (tT L b k) 1 then tval L b (tT L b k) 0 else -1
def rg (L : List Int) (b : Int) : Int := if ov L b 2 = 8 then 1 else 0
def rmm (L : List Int) (b : Int) : Int := (ov L b 1 + ov L b 6 - 1) / ov L b 6
abbrev szOK (g w t : Int) : Prop := 1 ≤ w ∧ w ≤ (if g = 0 then 40 else 20) ∧ 1 ≤ t ∧ t ≤ (if g = 0 then 24 else 20)
abbrev isSc (s : Int) : Prop := s = 1 ∨ s = 32773 ∨ s = 5 ∨ s = 3 ∨ s = 4
def picOK (L : List Int) (b : Int) : Prop := (ov L b 2 = 1 ∨ ov L b 2 = 8) ∧ ov L b 4 = rg L b ∧ szOK (rg L b) (ov L b 0) (ov L b 1)
def schOK (L : List Int) (b : Int) : Prop := isSc (ov L b 3) ∧ ¬ (rg L b = 1 ∧ (ov L b 3 = 3 ∨ ov L b 3 = 4)) ∧ (¬ tT L b 8 = -1 → ov L b 8 = 1) ∧ (tT L b 8 = -1 → ¬ ov L b 3 = 3)
def strOK (L : List Int) (b : Int) : Prop := 1 ≤ ov L b 6 ∧ ov L b 6 ≤ ov L b 1 ∧ hv L b (tT L b 5) (rmm L b) ∧ hv L b (tT L b 7) (rmm L b)
def tagOK (L : List Int) (b : Int) : Prop := (stOK L b ∧ inc L b (tmany L b)) ∧ picOK L b ∧ schOK L b ∧ strOK L b
theorem tf_R (L : List Int) (b : Int) (k : Nat) : ∀ j : Nat, tf L b j k = -1 ∨ ∃ i : Nat, i < j ∧ tf L b j k = tp L b i
  | 0 => Or.inl rfl
  | j + 1 => by
    rw [tf]
    split
    · exact Or.inr ⟨j, by omega, rfl⟩
    · rcases tf_R L b k j with h | ⟨i, h1, h2⟩
      · exact Or.inl h
      · exact Or.inr ⟨i, by omega, h2⟩
theorem p0_R {L : List Int} {b : Int} (hB : isB L) : 0 ≤ p0 L b ∧ p0 L b < 4294967296 := num_4 hB 4
theorem tT_R {L : List Int} {b : Int} (hB : isB L) (hs : stOK L b) (k : Nat) : tT L b k = -1 ∨ (6 ≤ 8 + tT L b k ∧ tT L b k + 12 + 4 ≤ L.length ∧ 0 ≤ tT L b k) := by
  have h1 := p0_R (b := b) hB
  rcases tf_R L b k (tmany L b) with h | ⟨i, h2, h3⟩
  · exact Or.inl h
  · refine Or.inr ?_
    unfold tT
    rw [h3]
    unfold tp
    have := hs.2.1
    omega
theorem NU_inj9 : ∀ i : Nat, i < 9 → ∀ j : Nat, j < 9 → fx_tNU.getD i 0 = fx_tNU.getD j 0 → i = j := by decide +kernel
theorem NU_inj (i j : Nat) (h1 : i < 9) (h2 : j < 9) (e : fx_tNU.getD i 0 = fx_tNU.getD j 0) : i = j := NU_inj9 i h1 j h2 e
theorem NU_R : ∀ i : Nat, i < 9 → 0 ≤ fx_tNU.getD i 0 ∧ fx_tNU.getD i 0 < 300 := by decide +kernel
section TG
variable {l : Launch} {Q : Option Value → fx_H → Prop} {h : fx_H} {a : Nat → Nat} {pp dd : Nat} {L : List Int} {b : Int}
theorem cL.sm {P : Nat → Prop} {h h2 : fx_H} (c : cL h L b) (s : sm P h h2) (h1 : ¬ P 1) (h3 : ¬ P 2) : cL h2 L b := ⟨c.1.sm s h1 h3, by rw [s.2.1 1 2 h1]; exact c.2.1, c.2.2⟩
theorem m_note {n q : Int} (hS : h.1 = fx_S0 a pp dd) (hn : zR n) (k : ∀ h2, sm (fun j => j = 12) h h2 → h2.2.1 = h.2.1 → (∀ i : Nat, i < 9 → h2.2.2.1 12 i = if fx_tNU.getD i 0 = n then q else h.2.2.1 12 i) → Q none h2) : fx_Mt l M_TG_note (0, 0) [.ref 11, .int (zI n), .int (zI q)] h Q := by
  refine e_TG_note hS ?_
  have loop : ∀ (m i : Nat) (h3 : fx_H), i + m = 9 → sm (fun j => j = 12) h h3 → h3.2.1 = h.2.1 → (∀ j : Nat, j < 9 → h3.2.2.1 12 j = if j < i ∧ fx_tNU.getD j 0 = n then q else h.2.2.1 12 j) → fx_V l M_TG_note (0, 0) Q 0 0 2 [some (.ref 11), some (.int (zI n)), some (.int (zI q)), some (.int (zI (i : Nat)))] [] h3 := by
    intro m
    induction m with
    | zero =>
      intro i h3 hi s3 f3 d3
      refine w_TG_note_2 (s3.1.trans hS) ⟨by omega, fun _ => k h3 s3 f3 fun j hj => ?_, fun z => by omega⟩
      rw [d3 j hj]
      by_cases hz : fx_tNU.getD j 0 = n
      · rw [if_pos ⟨by omega, hz⟩, if_pos hz]
      · rw [if_neg (fun z => hz z.2), if_neg hz]
    | succ m ih =>
      intro i h3 hi s3 f3 d3
      have nr := NU_R i (by omega)
      have e : ((i : Nat) : Int) + 1 = ((i + 1 : Nat) : Int) := by omega
      refine w_TG_note_2 (s3.1.trans hS) ⟨by omega, fun z => by omega, fun _ => ⟨by omega, by omega, ?_⟩⟩
      rw [Int.toNat_natCast, e]
      refine ⟨by omega, hn, fun z => ih (i + 1) h3 (by omega) s3 f3 fun j hj => ?_, fun z => ⟨by omega, by omega, ih (i + 1) _ (by omega) (s3.tr (sm.uA rfl)) f3 fun j hj => ?_⟩⟩
      · rw [d3 j hj]
        by_cases hji : j = i
        · subst hji
          rw [if_neg (fun q => by omega), if_neg (fun q => z q.2)]
        · by_cases hz : fx_tNU.getD j 0 = n
          · by_cases hlt : j < i
            · rw [if_pos ⟨hlt, hz⟩, if_pos ⟨by omega, hz⟩]
            · rw [if_neg (fun q => hlt q.1), if_neg (fun q => by omega)]
          · rw [if_neg (fun q => hz q.2), if_neg (fun q => hz q.2)]
      · by_cases hji : j = i
        · subst hji
          rw [uA_s, if_pos ⟨by omega, z⟩]
        · rw [uA_n _ _ (fun q => hji q.2), d3 j hj]
          by_cases hz : fx_tNU.getD j 0 = n
          · exact absurd (NU_inj j i hj (by omega) (hz.trans z.symm)) hji
          · rw [if_neg (fun q => hz q.2), if_neg (fun q => hz q.2)]
  exact loop 9 0 h rfl sm.rf rfl fun j hj => by rw [if_neg (fun q => by omega)]
theorem m_placeOf {n : Int} (j : Nat) (hj : j < 9) (hn : n = fx_tNU.getD j 0) (hS : h.1 = fx_S0 a pp dd) (k : Q (some (.int (zI (h.2.2.1 12 j)))) h) : fx_Mt l M_TG_placeOf (0, 0) [.ref 11, .int (zI n)] h Q := by
  subst hn
  have nj := NU_R j hj
  refine e_TG_placeOf hS ?_
  have loop : ∀ (m i : Nat), i + m = j → fx_V l M_TG_placeOf (0, 0) Q 0 0 2 [some (.ref 11), some (.int (zI (fx_tNU.getD j 0))), some (.int (zI (i : Nat)))] [] h := by
    intro m
    induction m with
    | zero =>
      intro i hi
      have hij : i = j := by omega
      subst hij
      refine w_TG_placeOf_2 hS ⟨by omega, fun z => by omega, fun _ => ⟨by omega, by omega, ?_⟩⟩
      rw [Int.toNat_natCast]
      exact ⟨by omega, by omega, fun z => absurd rfl z, fun _ => ⟨by omega, by omega, k⟩⟩
    | succ m ih =>
      intro i hi
      have nr := NU_R i (by omega)
      have e : ((i : Nat) : Int) + 1 = ((i + 1 : Nat) : Int) := by omega
      refine w_TG_placeOf_2 hS ⟨by omega, fun z => by omega, fun _ => ⟨by omega, by omega, ?_⟩⟩
      rw [Int.toNat_natCast, e]
      exact ⟨by omega, by omega, fun _ => ih (i + 1) (by omega), fun z => by have := NU_inj i j (by omega) hj z; omega⟩
  exact loop j 0 (Nat.zero_add _)
theorem m_findTags (hS : h.1 = fx_S0 a pp dd) (c : cL h L b) (h8 : 8 ≤ L.length) (k1 : stOK L b ∧ inc L b (tmany L b) → ∀ h2, sm (fun j => j = 12) h h2 → h2.2.1 = h.2.1 → (∀ k : Nat, k < 9 → h2.2.2.1 12 k = tT L b k) → Q (some (.int (zI 1))) h2) (k0 : ¬ (stOK L b ∧ inc L b (tmany L b)) → ∀ h2, sm (fun j => j = 12) h h2 → h2.2.1 = h.2.1 → Q (some (.int (zI 0))) h2) : fx_Mt l M_TG_findTags (0, 0) [.ref 11] h Q := by
  have hB := c.2.2.2.2
  have hlen := c.2.2.2.1
  have hp0 := p0_R (b := b) hB
  have hmn := num_2 (b := b) hB (p0 L b)
  have htm : (tmany L b : Int) = num L b (p0 L b) 2 := by unfold tmany; omega
  refine e_TG_findTags hS (m_fill9 (at_12 hS) fun h1 s1 f1 d1 => ⟨rfl, s1.1, ?_⟩)
  have hS1 := s1.1.trans hS
  have c1 : cL h1 L b := c.sm s1 (by omega) (by omega)
  have l1 : h1.2.1 1 1 = L.length := c1.1.len
  refine m_numberAt (n := 4) hS1 c1 (by omega) (by omega) (by omega) ⟨p0 L b, rfl, rfl, by omega, ?_⟩
  rw [l1]
  refine ⟨by omega, by omega, fun z => ?_, fun z => k0 (fun q => z (zC_le.mpr q.1.1)) h1 s1 f1⟩
  have z1 := zC_le.mp z
  refine m_numberAt (n := 2) hS1 c1 hp0.1 (by omega) (by omega) ⟨_, rfl, rfl, ?_⟩
  rw [l1]
  refine ⟨by omega, by omega, fun z2 => k0 (fun q => by have := q.1.2.1; omega) h1 s1 f1, fun z2 => ?_⟩
  refine m_numberAt (n := 4) hS1 c1 (by omega) (by omega) (by omega) ?_
  have e12 : p0 L b + 2 + num L b (p0 L b) 2 * 12 = p0 L b + 2 + 12 * tmany L b := by omega
  rw [e12]
  have n4 := num_4 (b := b) hB (p0 L b + 2 + 12 * tmany L b)
  refine ⟨_, rfl, rfl, by omega, fun z3 => ?_, fun z3 => k0 (fun q => z3 (zC_0.mpr q.1.2.2)) h1 s1 f1⟩
  have hst : stOK L b := ⟨z1, by omega, zC_0.mp z3⟩
  rw [← htm]
  have loop : ∀ (m i : Nat) (h3 : fx_H), i + m = tmany L b → inc L b i → sm (fun j => j = 12) h h3 → h3.2.1 = h.2.1 → (∀ k : Nat, k < 9 → h3.2.2.1 12 k = tf L b i k) → fx_V l M_TG_findTags (0, 0) Q 0 0 101 [some (.ref 11), none, none, some (.int (zI (tmany L b : Nat))), some (.int (zI (p0 L b + 2))), none, some (.int (zI (lnb L b i))), some (.int (zI (i : Nat))), none] [] h3 := by
    intro m
    induction m with
    | zero =>
      intro i h3 hi hinc s3 f3 d3
      have him : i = tmany L b := by omega
      rw [him] at hinc d3
      exact w_TG_findTags_101 (s3.1.trans hS) ⟨by omega, by omega, fun _ => k1 ⟨hst, hinc⟩ h3 s3 f3 d3, fun z => by omega⟩
    | succ m ih =>
      intro i h3 hi hinc s3 f3 d3
      have hS3 := s3.1.trans hS
      have c3 : cL h3 L b := c.sm s3 (by omega) (by omega)
      have tnr : 0 ≤ tn L b i ∧ tn L b i < 65536 := num_2 hB _
      have lnr : zR (lnb L b i) := by
        cases i with
        | zero => show zR (-1); omega
        | succ i => have : 0 ≤ tn L b i ∧ tn L b i < 65536 := num_2 hB _; show zR (tn L b i); omega
      have et : p0 L b + 2 + (i : Nat) * 12 = tp L b i := by unfold tp; omega
      have htp : 0 ≤ tp L b i ∧ tp L b i < 3000 := by unfold tp; omega
      refine w_TG_findTags_101 hS3 ⟨by omega, by omega, fun z => by omega, fun _ => ?_⟩
      rw [et]
      refine m_numberAt (n := 2) hS3 c3 htp.1 (by omega) (by omega) ⟨tn L b i, rfl, rfl, by omega, lnr, fun z => ?_, fun z => ?_⟩
      · refine m_note hS3 (by omega) fun h4 s4 f4 d4 => ⟨rfl, s4.1, ?_⟩
        have e : ((i : Nat) : Int) + 1 = ((i + 1 : Nat) : Int) := by omega
        rw [e]
        refine ih (i + 1) h4 (by omega) ⟨hinc, z⟩ (s3.tr s4) (f4.trans f3) fun k hk => ?_
        rw [d4 k hk, d3 k hk, tf]
      · refine k0 (fun q => z ?_) h3 s3 f3
        have mono : ∀ j : Nat, inc L b j → i < j → lnb L b i < tn L b i := by
          intro j
          induction j with
          | zero => intro _ h9; omega
          | succ j ih9 =>
            intro hj h9
            by_cases hij : i = j
            · subst hij; exact hj.2
            · exact ih9 hj.1 (by omega)
        exact mono _ q.2 (by omega)
  exact loop _ 0 h1 (Nat.zero_add _) trivial s1 f1 fun k hk => d1 k hk
/-- the class knows where the tags lie -/
def cT9 (h : fx_H) (L : List Int) (b : Int) : Prop := ∀ k : Nat, k < 9 → h.2.2.1 12 k = tT L b k
theorem ea_R (L : List Int) (b at_ : Int) : ea L b at_ = 2 ∨ ea L b at_ = 4 := by unfold ea; split <;> omega
theorem m_bytesOfValue {q : Int} (hS : h.1 = fx_S0 a pp dd) (c : cL h L b) (hq : 0 ≤ q) (hq2 : q < 10000) (k : Q (some (.int (zI (ea L b q)))) h) : fx_Mt l M_TG_bytesOfValue (0, 0) [.ref 11, .int (zI q)] h Q := by
  have hB := c.2.2.2.2
  have nr := num_2 (b := b) hB (q + 2)
  unfold ea ty at k
  refine e_TG_bytesOfValue hS (m_numberAt (n := 2) hS c (by omega) (by omega) (by omega) ⟨_, rfl, rfl, by omega, fun z => ?_, fun z => ?_⟩)
  · rw [if_neg (fun q => z (zC_0.mpr q))] at k; exact k
  · rw [if_pos (zC_0.mp z)] at k; exact k
theorem m_hasValues {n m : Int} (j : Nat) (hj : j < 9) (hn : n = fx_tNU.getD j 0) (hS : h.1 = fx_S0 a pp dd) (c : cL h L b) (hst : stOK L b) (ht : cT9 h L b) (hm : 0 ≤ m) (hm2 : m ≤ 1000) (k1 : hv L b (tT L b j) m → Q (some (.int (zI 1))) h) (k0 : ¬ hv L b (tT L b j) m → Q (some (.int (zI 0))) h) : fx_Mt l M_TG_hasValues (0, 0) [.ref 11, .int (zI n), .int (zI m)] h Q := by
  have hB := c.2.2.2.2
  have hlen := c.2.2.2.1
  have l1 : h.2.1 1 1 = L.length := c.1.len
  have hT := tT_R hB hst j
  refine e_TG_hasValues hS (m_placeOf j hj hn hS ?_)
  rw [ht j hj]
  generalize tT L b j = q at *
  refine ⟨_, rfl, rfl, by omega, fun z => ?_, fun z => k0 (fun w => w.1 z)⟩
  have nr := num_2 (b := b) hB (q + 2)
  have n4 := num_4 (b := b) hB (q + 4)
  have n8 := num_4 (b := b) hB (q + 8)
  have er := ea_R L b q
  have rest : (ty L b q = 3 ∨ ty L b q = 4) → fx_Mt l M_BY_numberAt (0, 0) [.ref 1, .int (zI (q + 4)), .int (zI 4)] h (fun v h11 => ∃ r13 : Int, v = some (.long (zL r13)) ∧ h11.1 = h.1 ∧ zR m ∧ zRL r13 ∧ zRL m ∧ (((zC r13 m) = 0 → fx_Mt l M_TG_bytesOfValue (0, 0) [.ref 11, .int (zI q)] h11 (fun v h18 => ∃ r20 : Int, v = some (.int (zI r20)) ∧ h18.1 = h11.1 ∧ zR (m * r20) ∧ (((m * r20) ≤ 4 → Q (some (.int (zI 1))) h18) ∧ (¬ ((m * r20) ≤ 4) → fx_Mt l M_BY_numberAt (0, 0) [.ref 1, .int (zI (q + 8)), .int (zI 4)] h18 (fun v h23 => ∃ r25 : Int, v = some (.long (zL r25)) ∧ h23.1 = h18.1 ∧ zR (h23.2.1 1 1) ∧ zRL (r25 + (m * r20)) ∧ zRL (h23.2.1 1 1) ∧ ((0 < (zC (r25 + (m * r20)) (h23.2.1 1 1)) → Q (some (.int (zI 0))) h23) ∧ (¬ (0 < (zC (r25 + (m * r20)) (h23.2.1 1 1))) → Q (some (.int (zI 1))) h23))))))) ∧ (¬ ((zC r13 m) = 0) → Q (some (.int (zI 0))) h11))) := by
    intro hty
    refine m_numberAt (n := 4) hS c (by omega) (by omega) (by omega) ⟨_, rfl, rfl, by omega, by omega, by omega, fun z3 => ?_, fun z3 => k0 (fun w => z3 (zC_0.mpr w.2.2.1))⟩
    refine m_bytesOfValue hS c (by omega) (by omega) ⟨_, rfl, rfl, ?_⟩
    have hme : 0 ≤ m * ea L b q ∧ m * ea L b q ≤ 4000 := by rcases er with e | e <;> rw [e] <;> omega
    have hct : ct L b q = m := zC_0.mp z3
    refine ⟨by omega, fun z4 => k1 ⟨z, hty, hct, Or.inl z4⟩, fun z4 => ?_⟩
    refine m_numberAt (n := 4) hS c (by omega) (by omega) (by omega) ⟨_, rfl, rfl, ?_⟩
    rw [l1]
    refine ⟨by omega, by omega, by omega, fun z5 => k0 (fun w => ?_), fun z5 => k1 ⟨z, hty, hct, Or.inr ?_⟩⟩
    · have := zC_gt.mp z5
      rcases w.2.2.2 with w1 | w1 <;> omega
    · have : ¬ _ := fun q => z5 (zC_gt.mpr q)
      omega
  refine m_numberAt (n := 2) hS c (by omega) (by omega) (by omega) ⟨_, rfl, rfl, by omega, fun z2 => rest (Or.inl (zC_0.mp z2)), fun z2 => ⟨fun z3 => k0 (fun w => ?_), fun z3 => rest (Or.inr (zC_0.mp z3))⟩⟩
  rcases w.2.1 with w1 | w1
  · exact z2 (zC_0.mpr w1)
  · exact z3 (zC_0.mpr w1)
theorem hv_vp {q m i : Int} (hB : isB L) (hT : q = -1 ∨ (6 ≤ 8 + q ∧ q + 12 + 4 ≤ L.length ∧ 0 ≤ q)) (w : hv L b q m) (hi : 0 ≤ i) (him : i < m) (hm : m ≤ 1000) : 0 ≤ vp L b q + i * ea L b q ∧ vp L b q + i * ea L b q + ea L b q ≤ L.length ∧ 0 ≤ q ∧ q + 16 ≤ L.length := by
  obtain ⟨w1, w2, w3, w4⟩ := w
  have er := ea_R L b q
  have n8 := num_4 (b := b) hB (q + 8)
  unfold vp
  rw [w3]
  rcases er with e | e <;> rw [e] at w4 ⊢ <;> split <;> omega
theorem m_valueOf {n m i : Int} (j : Nat) (hj : j < 9) (hn : n = fx_tNU.getD j 0) (hS : h.1 = fx_S0 a pp dd) (c : cL h L b) (hst : stOK L b) (ht : cT9 h L b) (hm2 : m ≤ 1000) (hi : 0 ≤ i) (him : i < m) (w : hv L b (tT L b j) m) (k : Q (some (.long (zL (tval L b (tT L b j) i)))) h) : fx_Mt l M_TG_valueOf (0, 0) [.ref 11, .int (zI n), .int (zI i)] h Q := by
  have hB := c.2.2.2.2
  have hlen := c.2.2.2.1
  have hT := tT_R hB hst j
  have hvv := hv_vp hB hT w hi him hm2
  refine e_TG_valueOf hS (m_placeOf j hj hn hS ?_)
  rw [ht j hj]
  unfold tval at k
  generalize tT L b j = q at *
  have n4 := num_4 (b := b) hB (q + 4)
  have n8 := num_4 (b := b) hB (q + 8)
  have er := ea_R L b q
  have hct : num L b (q + 4) 4 = m := w.2.2.1
  refine ⟨_, rfl, rfl, m_bytesOfValue hS c (by omega) (by omega) ⟨_, rfl, rfl, ?_⟩⟩
  refine m_numberAt (n := 4) hS c (by omega) (by omega) (by omega) ⟨_, rfl, rfl, by omega, ?_⟩
  have fin : ∀ pz : Int, pz = vp L b q + i * ea L b q → fx_Mt l M_BY_numberAt (0, 0) [.ref 1, .int (zI pz), .int (zI (ea L b q))] h (fun v h16 => ∃ r18 : Int, v = some (.long (zL r18)) ∧ h16.1 = h.1 ∧ Q (some (.long (zL r18))) h16) := by
    intro pz hpz
    subst hpz
    have he : ea L b q = (((ea L b q).toNat : Nat) : Int) := by omega
    have := m_numberAt (l := l) (Q := fun v h16 => ∃ r18 : Int, v = some (.long (zL r18)) ∧ h16.1 = h.1 ∧ Q (some (.long (zL r18))) h16) (p := vp L b q + i * ea L b q) (n := (ea L b q).toNat) hS c (by omega) (by omega) (by omega) ⟨_, rfl, rfl, k⟩
    rw [← he] at this
    exact this
  have hvp : vp L b q = if m * ea L b q ≤ 4 then q + 8 else num L b (q + 8) 4 := by unfold vp; rw [w.2.2.1]
  rw [hct]
  refine ⟨by rcases er with e | e <;> rw [e] <;> omega, fun z => ?_, fun z => ?_⟩
  · have z1 := zC_gt.mp z
    refine m_numberAt (n := 4) hS c (by omega) (by omega) (by omega) ⟨_, rfl, rfl, fin _ ?_⟩
    rw [hvp, if_neg (by omega)]
  · have z1 : m * ea L b q ≤ 4 := by
      by_cases z9 : m * ea L b q ≤ 4
      · exact z9
      · exact absurd (zC_gt.mpr (by omega)) z
    exact fin _ (by rw [hvp, if_pos z1])
theorem tval_R (hB : isB L) (q i : Int) : 0 ≤ tval L b q i ∧ tval L b q i < 4294967296 := by
  unfold tval
  rcases ea_R L b q with e | e <;> rw [e]
  · have := num_2 (b := b) hB (vp L b q + i * 2); exact ⟨this.1, by have := this.2; show num L b (vp L b q + i * 2) 2 < _; omega⟩
  · exact num_4 (b := b) hB (vp L b q + i * 4)
theorem ov_R (hB : isB L) (k : Nat) : -1 ≤ ov L b k ∧ ov L b k < 4294967296 := by
  unfold ov
  split
  · have := tval_R (b := b) hB (tT L b k) 0; omega
  · omega
theorem m_onlyValue {n : Int} (j : Nat) (hj : j < 9) (hn : n = fx_tNU.getD j 0) (hS : h.1 = fx_S0 a pp dd) (c : cL h L b) (hst : stOK L b) (ht : cT9 h L b) (k : Q (some (.long (zL (ov L b j)))) h) : fx_Mt l M_TG_onlyValue (0, 0) [.ref 11, .int (zI n)] h Q := by
  unfold ov at k
  refine e_TG_onlyValue hS (m_hasValues j hj hn hS c hst ht (by omega) (by omega) (fun w => ⟨1, rfl, rfl, by omega, fun z => by omega, fun _ => ?_⟩) (fun w => ⟨0, rfl, rfl, by omega, fun _ => ?_, fun z => absurd rfl z⟩))
  · rw [if_pos w] at k
    exact m_valueOf j hj hn hS c hst ht (by omega) (by omega) (by omega) w ⟨_, rfl, rfl, k⟩
  · rw [if_neg w] at k; exact k
theorem m_sizeCanBe {g x y : Int} (hS : h.1 = fx_S0 a pp dd) (hg : g = 0 ∨ g = 1) (hx : zRL x) (hy : zRL y) (k1 : szOK g x y → Q (some (.int (zI 1))) h) (k0 : ¬ szOK g x y → Q (some (.int (zI 0))) h) : fx_Mt l M_FP_sizeCanBe (0, 0) [.int (zI g), .long (zL x), .long (zL y)] h Q := by
  have i1 := @zC_lt x 1
  have i2 := @zC_gt x 40
  have i3 := @zC_gt x 20
  have i4 := @zC_lt y 1
  have i5 := @zC_gt y 24
  have i6 := @zC_gt y 20
  unfold szOK at k1 k0
  rcases hg with rfl | rfl
  · simp only [if_true] at k1 k0
    refine e_FP_sizeCanBe hS ⟨hx, fun z => k0 (by omega), fun z => ⟨by omega, fun _ => ⟨fun z2 => k0 (by omega), fun z2 => ⟨hy, fun z3 => k0 (by omega), fun z3 => ⟨fun _ => ⟨fun z4 => k0 (by omega), fun z4 => k1 (by omega)⟩, fun z4 => absurd rfl z4⟩⟩⟩, fun z2 => absurd rfl z2⟩⟩
  · rw [if_neg (by omega), if_neg (by omega)] at k1 k0
    refine e_FP_sizeCanBe hS ⟨hx, fun z => k0 (by omega), fun z => ⟨by omega, fun z2 => by omega, fun _ => ⟨fun z2 => k0 (by omega), fun z2 => ⟨hy, fun z3 => k0 (by omega), fun z3 => ⟨fun z4 => by omega, fun _ => ⟨fun z4 => k0 (by omega), fun z4 => k1 (by omega)⟩⟩⟩⟩⟩⟩
end TG
